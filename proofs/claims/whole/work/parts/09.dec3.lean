def tlX12_in : List (Nat × Instr × Nat) := [(0, .iload_n 0, 1), (1, .iload_n 1, 1), (2, .if_icmp .lt 12, 3), (5, .iload_n 0, 1), (6, .iload_n 2, 1), (7, .if_icmp .gt 7, 3), (10, .iconst 1, 1), (11, .goto 4, 3), (14, .iconst 0, 1), (15, .ireturn, 1)]
theorem tbX12_in : vm_chk cX12_in tlX12_in = true := by decide +kernel
theorem dX12_in_0 : vm_at cX12_in 0 (.iload_n 0) 1 1 ∧ ((0 : Fin 4) : Nat) = 0 := ⟨⟨vm_row tbX12_in 0 rfl, rfl⟩, rfl⟩
theorem dX12_in_1 : vm_at cX12_in 1 (.iload_n 1) 1 2 ∧ ((1 : Fin 4) : Nat) = 1 := ⟨⟨vm_row tbX12_in 1 rfl, rfl⟩, rfl⟩
theorem dX12_in_2 : vm_br cX12_in 2 (.if_icmp .lt 12) 3 5 (12) 14 := ⟨vm_row tbX12_in 2 rfl, rfl, rfl⟩
theorem dX12_in_5 : vm_at cX12_in 5 (.iload_n 0) 1 6 ∧ ((0 : Fin 4) : Nat) = 0 := ⟨⟨vm_row tbX12_in 3 rfl, rfl⟩, rfl⟩
theorem dX12_in_6 : vm_at cX12_in 6 (.iload_n 2) 1 7 ∧ ((2 : Fin 4) : Nat) = 2 := ⟨⟨vm_row tbX12_in 4 rfl, rfl⟩, rfl⟩
theorem dX12_in_7 : vm_br cX12_in 7 (.if_icmp .gt 7) 3 10 (7) 14 := ⟨vm_row tbX12_in 5 rfl, rfl, rfl⟩
theorem dX12_in_10 : vm_at cX12_in 10 (.iconst 1) 1 11 ∧ Int32.ofInt (1) = (1 : Int32) := ⟨⟨vm_row tbX12_in 6 rfl, rfl⟩, z_iconst_1⟩
theorem dX12_in_11 : vm_br cX12_in 11 (.goto 4) 3 14 (4) 15 := ⟨vm_row tbX12_in 7 rfl, rfl, rfl⟩
theorem dX12_in_14 : vm_at cX12_in 14 (.iconst 0) 1 15 ∧ Int32.ofInt (0) = (0 : Int32) := ⟨⟨vm_row tbX12_in 8 rfl, rfl⟩, z_iconst_0⟩
theorem dX12_in_15 : vm_at cX12_in 15 (.ireturn) 1 16 := ⟨vm_row tbX12_in 9 rfl, rfl⟩
def tlX12_has : List (Nat × Instr × Nat) := [(0, .iload_n 0, 1), (1, .iload_n 1, 1), (2, .ishr, 1), (3, .iconst 1, 1), (4, .iand, 1), (5, .iconst 1, 1), (6, .if_icmp .ne 7, 3), (9, .iconst 1, 1), (10, .goto 4, 3), (13, .iconst 0, 1), (14, .ireturn, 1)]
theorem tbX12_has : vm_chk cX12_has tlX12_has = true := by decide +kernel
theorem dX12_has_0 : vm_at cX12_has 0 (.iload_n 0) 1 1 ∧ ((0 : Fin 4) : Nat) = 0 := ⟨⟨vm_row tbX12_has 0 rfl, rfl⟩, rfl⟩
theorem dX12_has_1 : vm_at cX12_has 1 (.iload_n 1) 1 2 ∧ ((1 : Fin 4) : Nat) = 1 := ⟨⟨vm_row tbX12_has 1 rfl, rfl⟩, rfl⟩
theorem dX12_has_2 : vm_at cX12_has 2 (.ishr) 1 3 := ⟨vm_row tbX12_has 2 rfl, rfl⟩
theorem dX12_has_3 : vm_at cX12_has 3 (.iconst 1) 1 4 ∧ Int32.ofInt (1) = (1 : Int32) := ⟨⟨vm_row tbX12_has 3 rfl, rfl⟩, z_iconst_1⟩
theorem dX12_has_4 : vm_at cX12_has 4 (.iand) 1 5 := ⟨vm_row tbX12_has 4 rfl, rfl⟩
theorem dX12_has_5 : vm_at cX12_has 5 (.iconst 1) 1 6 ∧ Int32.ofInt (1) = (1 : Int32) := ⟨⟨vm_row tbX12_has 5 rfl, rfl⟩, z_iconst_1⟩
theorem dX12_has_6 : vm_br cX12_has 6 (.if_icmp .ne 7) 3 9 (7) 13 := ⟨vm_row tbX12_has 6 rfl, rfl, rfl⟩
theorem dX12_has_9 : vm_at cX12_has 9 (.iconst 1) 1 10 ∧ Int32.ofInt (1) = (1 : Int32) := ⟨⟨vm_row tbX12_has 7 rfl, rfl⟩, z_iconst_1⟩
theorem dX12_has_10 : vm_br cX12_has 10 (.goto 4) 3 13 (4) 14 := ⟨vm_row tbX12_has 8 rfl, rfl, rfl⟩
theorem dX12_has_13 : vm_at cX12_has 13 (.iconst 0) 1 14 ∧ Int32.ofInt (0) = (0 : Int32) := ⟨⟨vm_row tbX12_has 9 rfl, rfl⟩, z_iconst_0⟩
theorem dX12_has_14 : vm_at cX12_has 14 (.ireturn) 1 15 := ⟨vm_row tbX12_has 10 rfl, rfl⟩
def tlX12_isNumber : List (Nat × Instr × Nat) := [(0, .iload_n 1, 1), (1, .iconst 0, 1), (2, .aload_n 0, 1), (3, .getfield 65, 3), (6, .iconst 1, 1), (7, .isub, 1), (8, .invokestatic 68, 3), (11, .ireturn, 1)]
theorem tbX12_isNumber : vm_chk cX12_isNumber tlX12_isNumber = true := by decide +kernel
theorem dX12_isNumber_0 : vm_at cX12_isNumber 0 (.iload_n 1) 1 1 ∧ ((1 : Fin 4) : Nat) = 1 := ⟨⟨vm_row tbX12_isNumber 0 rfl, rfl⟩, rfl⟩
theorem dX12_isNumber_1 : vm_at cX12_isNumber 1 (.iconst 0) 1 2 ∧ Int32.ofInt (0) = (0 : Int32) := ⟨⟨vm_row tbX12_isNumber 1 rfl, rfl⟩, z_iconst_0⟩
theorem dX12_isNumber_2 : vm_at cX12_isNumber 2 (.aload_n 0) 1 3 ∧ ((0 : Fin 4) : Nat) = 0 := ⟨⟨vm_row tbX12_isNumber 2 rfl, rfl⟩, rfl⟩
theorem dX12_isNumber_3 : vm_at cX12_isNumber 3 (.getfield 65) 3 6 := ⟨vm_row tbX12_isNumber 3 rfl, rfl⟩
theorem dX12_isNumber_6 : vm_at cX12_isNumber 6 (.iconst 1) 1 7 ∧ Int32.ofInt (1) = (1 : Int32) := ⟨⟨vm_row tbX12_isNumber 4 rfl, rfl⟩, z_iconst_1⟩
theorem dX12_isNumber_7 : vm_at cX12_isNumber 7 (.isub) 1 8 := ⟨vm_row tbX12_isNumber 5 rfl, rfl⟩
theorem dX12_isNumber_8 : vm_at cX12_isNumber 8 (.invokestatic 68) 3 11 := ⟨vm_row tbX12_isNumber 6 rfl, rfl⟩
theorem dX12_isNumber_11 : vm_at cX12_isNumber 11 (.ireturn) 1 12 := ⟨vm_row tbX12_isNumber 7 rfl, rfl⟩
def tlX12_feed : List (Nat × Instr × Nat) := [(0, .iload_n 1, 1), (1, .iconst 1, 1), (2, .bipush 8, 2), (4, .invokestatic 68, 3), (7, .ifCond .ne 6, 3), (10, .ldc 72, 2), (12, .ireturn, 1), (13, .aload_n 0, 1), (14, .getfield 73, 3), (17, .iload_n 1, 1), (18, .iadd, 1), (19, .sipush 400, 3), (22, .if_icmp .le 6, 3), (25, .ldc 76, 2), (27, .ireturn, 1), (28, .iconst 0, 1), (29, .istore 4, 2), (31, .iload 4, 2), (33, .iload_n 1, 1), (34, .if_icmp .ge 37, 3), (37, .aload_n 0, 1), (38, .getfield 17, 3), (41, .aload_n 0, 1), (42, .getfield 73, 3), (45, .iload 4, 2), (47, .iadd, 1), (48, .lload_n 2, 1), (49, .bipush 8, 2), (51, .iload_n 1, 1), (52, .iconst 1, 1), (53, .isub, 1), (54, .iload 4, 2), (56, .isub, 1), (57, .imul, 1), (58, .lshr, 1), (59, .ldc2_w 77, 3), (62, .land, 1), (63, .l2i, 1), (64, .iastore, 1), (65, .iinc 4 1, 3), (68, .goto (-37), 3), (71, .aload_n 0, 1), (72, .dup, 1), (73, .getfield 73, 3), (76, .iload_n 1, 1), (77, .iadd, 1), (78, .putfield 73, 3), (81, .aload_n 0, 1), (82, .getfield 73, 3), (85, .ireturn, 1)]
theorem tbX12_feed : vm_chk cX12_feed tlX12_feed = true := by decide +kernel
theorem dX12_feed_0 : vm_at cX12_feed 0 (.iload_n 1) 1 1 ∧ ((1 : Fin 4) : Nat) = 1 := ⟨⟨vm_row tbX12_feed 0 rfl, rfl⟩, rfl⟩
theorem dX12_feed_1 : vm_at cX12_feed 1 (.iconst 1) 1 2 ∧ Int32.ofInt (1) = (1 : Int32) := ⟨⟨vm_row tbX12_feed 1 rfl, rfl⟩, z_iconst_1⟩
theorem dX12_feed_2 : vm_at cX12_feed 2 (.bipush 8) 2 4 ∧ (Int8.ofInt (8)).toInt32 = (8 : Int32) := ⟨⟨vm_row tbX12_feed 2 rfl, rfl⟩, z_bipush_8⟩
theorem dX12_feed_4 : vm_at cX12_feed 4 (.invokestatic 68) 3 7 := ⟨vm_row tbX12_feed 3 rfl, rfl⟩
theorem dX12_feed_7 : vm_br cX12_feed 7 (.ifCond .ne 6) 3 10 (6) 13 := ⟨vm_row tbX12_feed 4 rfl, rfl, rfl⟩
theorem dX12_feed_10 : vm_at cX12_feed 10 (.ldc 72) 2 12 := ⟨vm_row tbX12_feed 5 rfl, rfl⟩
theorem dX12_feed_12 : vm_at cX12_feed 12 (.ireturn) 1 13 := ⟨vm_row tbX12_feed 6 rfl, rfl⟩
theorem dX12_feed_13 : vm_at cX12_feed 13 (.aload_n 0) 1 14 ∧ ((0 : Fin 4) : Nat) = 0 := ⟨⟨vm_row tbX12_feed 7 rfl, rfl⟩, rfl⟩
theorem dX12_feed_14 : vm_at cX12_feed 14 (.getfield 73) 3 17 := ⟨vm_row tbX12_feed 8 rfl, rfl⟩
theorem dX12_feed_17 : vm_at cX12_feed 17 (.iload_n 1) 1 18 ∧ ((1 : Fin 4) : Nat) = 1 := ⟨⟨vm_row tbX12_feed 9 rfl, rfl⟩, rfl⟩
theorem dX12_feed_18 : vm_at cX12_feed 18 (.iadd) 1 19 := ⟨vm_row tbX12_feed 10 rfl, rfl⟩
theorem dX12_feed_19 : vm_at cX12_feed 19 (.sipush 400) 3 22 ∧ (Int16.ofInt (400)).toInt32 = (400 : Int32) := ⟨⟨vm_row tbX12_feed 11 rfl, rfl⟩, z_sipush_400⟩
theorem dX12_feed_22 : vm_br cX12_feed 22 (.if_icmp .le 6) 3 25 (6) 28 := ⟨vm_row tbX12_feed 12 rfl, rfl, rfl⟩
theorem dX12_feed_25 : vm_at cX12_feed 25 (.ldc 76) 2 27 := ⟨vm_row tbX12_feed 13 rfl, rfl⟩
theorem dX12_feed_27 : vm_at cX12_feed 27 (.ireturn) 1 28 := ⟨vm_row tbX12_feed 14 rfl, rfl⟩
theorem dX12_feed_28 : vm_at cX12_feed 28 (.iconst 0) 1 29 ∧ Int32.ofInt (0) = (0 : Int32) := ⟨⟨vm_row tbX12_feed 15 rfl, rfl⟩, z_iconst_0⟩
theorem dX12_feed_29 : vm_at cX12_feed 29 (.istore 4) 2 31 := ⟨vm_row tbX12_feed 16 rfl, rfl⟩
theorem dX12_feed_31 : vm_at cX12_feed 31 (.iload 4) 2 33 := ⟨vm_row tbX12_feed 17 rfl, rfl⟩
theorem dX12_feed_33 : vm_at cX12_feed 33 (.iload_n 1) 1 34 ∧ ((1 : Fin 4) : Nat) = 1 := ⟨⟨vm_row tbX12_feed 18 rfl, rfl⟩, rfl⟩
theorem dX12_feed_34 : vm_br cX12_feed 34 (.if_icmp .ge 37) 3 37 (37) 71 := ⟨vm_row tbX12_feed 19 rfl, rfl, rfl⟩
theorem dX12_feed_37 : vm_at cX12_feed 37 (.aload_n 0) 1 38 ∧ ((0 : Fin 4) : Nat) = 0 := ⟨⟨vm_row tbX12_feed 20 rfl, rfl⟩, rfl⟩
theorem dX12_feed_38 : vm_at cX12_feed 38 (.getfield 17) 3 41 := ⟨vm_row tbX12_feed 21 rfl, rfl⟩
theorem dX12_feed_41 : vm_at cX12_feed 41 (.aload_n 0) 1 42 ∧ ((0 : Fin 4) : Nat) = 0 := ⟨⟨vm_row tbX12_feed 22 rfl, rfl⟩, rfl⟩
theorem dX12_feed_42 : vm_at cX12_feed 42 (.getfield 73) 3 45 := ⟨vm_row tbX12_feed 23 rfl, rfl⟩
theorem dX12_feed_45 : vm_at cX12_feed 45 (.iload 4) 2 47 := ⟨vm_row tbX12_feed 24 rfl, rfl⟩
theorem dX12_feed_47 : vm_at cX12_feed 47 (.iadd) 1 48 := ⟨vm_row tbX12_feed 25 rfl, rfl⟩
theorem dX12_feed_48 : vm_at cX12_feed 48 (.lload_n 2) 1 49 ∧ ((2 : Fin 4) : Nat) = 2 := ⟨⟨vm_row tbX12_feed 26 rfl, rfl⟩, rfl⟩
theorem dX12_feed_49 : vm_at cX12_feed 49 (.bipush 8) 2 51 ∧ (Int8.ofInt (8)).toInt32 = (8 : Int32) := ⟨⟨vm_row tbX12_feed 27 rfl, rfl⟩, z_bipush_8⟩
theorem dX12_feed_51 : vm_at cX12_feed 51 (.iload_n 1) 1 52 ∧ ((1 : Fin 4) : Nat) = 1 := ⟨⟨vm_row tbX12_feed 28 rfl, rfl⟩, rfl⟩
theorem dX12_feed_52 : vm_at cX12_feed 52 (.iconst 1) 1 53 ∧ Int32.ofInt (1) = (1 : Int32) := ⟨⟨vm_row tbX12_feed 29 rfl, rfl⟩, z_iconst_1⟩
theorem dX12_feed_53 : vm_at cX12_feed 53 (.isub) 1 54 := ⟨vm_row tbX12_feed 30 rfl, rfl⟩
theorem dX12_feed_54 : vm_at cX12_feed 54 (.iload 4) 2 56 := ⟨vm_row tbX12_feed 31 rfl, rfl⟩
theorem dX12_feed_56 : vm_at cX12_feed 56 (.isub) 1 57 := ⟨vm_row tbX12_feed 32 rfl, rfl⟩
theorem dX12_feed_57 : vm_at cX12_feed 57 (.imul) 1 58 := ⟨vm_row tbX12_feed 33 rfl, rfl⟩
theorem dX12_feed_58 : vm_at cX12_feed 58 (.lshr) 1 59 := ⟨vm_row tbX12_feed 34 rfl, rfl⟩
theorem dX12_feed_59 : vm_at cX12_feed 59 (.ldc2_w 77) 3 62 := ⟨vm_row tbX12_feed 35 rfl, rfl⟩
theorem dX12_feed_62 : vm_at cX12_feed 62 (.land) 1 63 := ⟨vm_row tbX12_feed 36 rfl, rfl⟩
theorem dX12_feed_63 : vm_at cX12_feed 63 (.l2i) 1 64 := ⟨vm_row tbX12_feed 37 rfl, rfl⟩
theorem dX12_feed_64 : vm_at cX12_feed 64 (.iastore) 1 65 := ⟨vm_row tbX12_feed 38 rfl, rfl⟩
theorem dX12_feed_65 : vm_at cX12_feed 65 (.iinc 4 1) 3 68 ∧ Int32.ofInt (1) = (1 : Int32) := ⟨⟨vm_row tbX12_feed 39 rfl, rfl⟩, z_iconst_1⟩
theorem dX12_feed_68 : vm_br cX12_feed 68 (.goto (-37)) 3 71 (-37) 31 := ⟨vm_row tbX12_feed 40 rfl, rfl, rfl⟩
theorem dX12_feed_71 : vm_at cX12_feed 71 (.aload_n 0) 1 72 ∧ ((0 : Fin 4) : Nat) = 0 := ⟨⟨vm_row tbX12_feed 41 rfl, rfl⟩, rfl⟩
theorem dX12_feed_72 : vm_at cX12_feed 72 (.dup) 1 73 := ⟨vm_row tbX12_feed 42 rfl, rfl⟩
theorem dX12_feed_73 : vm_at cX12_feed 73 (.getfield 73) 3 76 := ⟨vm_row tbX12_feed 43 rfl, rfl⟩
theorem dX12_feed_76 : vm_at cX12_feed 76 (.iload_n 1) 1 77 ∧ ((1 : Fin 4) : Nat) = 1 := ⟨⟨vm_row tbX12_feed 44 rfl, rfl⟩, rfl⟩
theorem dX12_feed_77 : vm_at cX12_feed 77 (.iadd) 1 78 := ⟨vm_row tbX12_feed 45 rfl, rfl⟩
theorem dX12_feed_78 : vm_at cX12_feed 78 (.putfield 73) 3 81 := ⟨vm_row tbX12_feed 46 rfl, rfl⟩
theorem dX12_feed_81 : vm_at cX12_feed 81 (.aload_n 0) 1 82 ∧ ((0 : Fin 4) : Nat) = 0 := ⟨⟨vm_row tbX12_feed 47 rfl, rfl⟩, rfl⟩
theorem dX12_feed_82 : vm_at cX12_feed 82 (.getfield 73) 3 85 := ⟨vm_row tbX12_feed 48 rfl, rfl⟩
theorem dX12_feed_85 : vm_at cX12_feed 85 (.ireturn) 1 86 := ⟨vm_row tbX12_feed 49 rfl, rfl⟩
def tlX12_nextToken : List (Nat × Instr × Nat) := [(0, .aload_n 0, 1), (1, .getfield 79, 3), (4, .aload_n 0, 1), (5, .getfield 73, 3), (8, .if_icmp .ge 30, 3), (11, .aload_n 0, 1), (12, .getfield 17, 3), (15, .aload_n 0, 1), (16, .getfield 79, 3), (19, .iaload, 1), (20, .bipush 32, 2), (22, .if_icmp .ne 16, 3), (25, .aload_n 0, 1), (26, .dup, 1), (27, .getfield 79, 3), (30, .iconst 1, 1), (31, .iadd, 1), (32, .putfield 79, 3), (35, .goto (-35), 3), (38, .aload_n 0, 1), (39, .aload_n 0, 1), (40, .getfield 79, 3), (43, .putfield 82, 3), (46, .aload_n 0, 1), (47, .iconst 0, 1), (48, .putfield 85, 3), (51, .aload_n 0, 1), (52, .iconst 0, 1), (53, .putfield 88, 3), (56, .aload_n 0, 1), (57, .getfield 79, 3), (60, .aload_n 0, 1), (61, .getfield 73, 3), (64, .if_icmp .ne 13, 3), (67, .aload_n 0, 1), (68, .ldc2_w 91, 3), (71, .putfield 93, 3), (74, .goto 306, 3), (77, .aload_n 0, 1), (78, .getfield 17, 3), (81, .aload_n 0, 1), (82, .getfield 79, 3), (85, .iaload, 1), (86, .bipush 97, 2), (88, .bipush 122, 2), (90, .invokestatic 68, 3), (93, .ifCond .eq 129, 3), (96, .aload_n 0, 1), (97, .lconst 0, 1), (98, .putfield 93, 3), (101, .aload_n 0, 1), (102, .getfield 79, 3), (105, .aload_n 0, 1), (106, .getfield 73, 3), (109, .if_icmp .ge 82, 3), (112, .aload_n 0, 1), (113, .getfield 17, 3), (116, .aload_n 0, 1), (117, .getfield 79, 3), (120, .iaload, 1), (121, .bipush 97, 2), (123, .bipush 122, 2), (125, .invokestatic 68, 3), (128, .ifCond .eq 63, 3), (131, .aload_n 0, 1), (132, .aload_n 0, 1), (133, .getfield 79, 3), (136, .aload_n 0, 1), (137, .getfield 82, 3), (140, .isub, 1), (141, .bipush 9, 2), (143, .if_icmp .ge 29, 3), (146, .ldc2_w 97, 3), (149, .aload_n 0, 1), (150, .getfield 93, 3), (153, .lmul, 1), (154, .aload_n 0, 1), (155, .getfield 17, 3), (158, .aload_n 0, 1), (159, .getfield 79, 3), (162, .iaload, 1), (163, .i2l, 1), (164, .ladd, 1), (165, .ldc2_w 99, 3), (168, .lsub, 1), (169, .goto 6, 3), (172, .ldc2_w 101, 3), (175, .putfield 93, 3), (178, .aload_n 0, 1), (179, .dup, 1), (180, .getfield 79, 3), (183, .iconst 1, 1), (184, .iadd, 1), (185, .putfield 79, 3), (188, .goto (-87), 3), (191, .aload_n 0, 1), (192, .aload_n 0, 1), (193, .getfield 79, 3), (196, .aload_n 0, 1), (197, .getfield 82, 3), (200, .isub, 1), (201, .bipush 9, 2), (203, .if_icmp .le 9, 3), (206, .ldc2_w 101, 3), (209, .goto 7, 3), (212, .aload_n 0, 1), (213, .getfield 93, 3), (216, .putfield 93, 3), (219, .goto 161, 3), (222, .aload_n 0, 1), (223, .getfield 17, 3), (226, .aload_n 0, 1), (227, .getfield 79, 3), (230, .iaload, 1), (231, .bipush 48, 2), (233, .bipush 57, 2), (235, .invokestatic 68, 3), (238, .ifCond .eq 105, 3), (241, .aload_n 0, 1), (242, .getfield 79, 3), (245, .aload_n 0, 1), (246, .getfield 73, 3), (249, .if_icmp .ge 84, 3), (252, .aload_n 0, 1), (253, .getfield 17, 3), (256, .aload_n 0, 1), (257, .getfield 79, 3), (260, .iaload, 1), (261, .bipush 48, 2), (263, .bipush 57, 2), (265, .invokestatic 68, 3), (268, .ifCond .eq 65, 3), (271, .aload_n 0, 1), (272, .aload_n 0, 1), (273, .getfield 85, 3), (276, .iconst 3, 1), (277, .if_icmp .ge 26, 3), (280, .bipush 10, 2), (282, .aload_n 0, 1), (283, .getfield 88, 3), (286, .imul, 1), (287, .aload_n 0, 1), (288, .getfield 17, 3), (291, .aload_n 0, 1), (292, .getfield 79, 3), (295, .iaload, 1), (296, .iadd, 1), (297, .bipush 48, 2), (299, .isub, 1), (300, .goto 7, 3), (303, .aload_n 0, 1), (304, .getfield 88, 3), (307, .putfield 88, 3), (310, .aload_n 0, 1), (311, .dup, 1), (312, .getfield 85, 3), (315, .iconst 1, 1), (316, .iadd, 1), (317, .putfield 85, 3), (320, .aload_n 0, 1), (321, .dup, 1), (322, .getfield 79, 3), (325, .iconst 1, 1), (326, .iadd, 1), (327, .putfield 79, 3), (330, .goto (-89), 3), (333, .aload_n 0, 1), (334, .ldc2_w 103, 3), (337, .putfield 93, 3), (340, .goto 40, 3), (343, .aload_n 0, 1), (344, .aload_n 0, 1), (345, .getfield 17, 3), (348, .aload_n 0, 1), (349, .getfield 79, 3), (352, .iaload, 1), (353, .bipush 59, 2), (355, .if_icmp .ne 9, 3), (358, .ldc2_w 105, 3), (361, .goto 6, 3), (364, .ldc2_w 101, 3), (367, .putfield 93, 3), (370, .aload_n 0, 1), (371, .dup, 1), (372, .getfield 79, 3), (375, .iconst 1, 1), (376, .iadd, 1), (377, .putfield 79, 3), (380, .return_, 1)]
theorem tbX12_nextToken : vm_chk cX12_nextToken tlX12_nextToken = true := by decide +kernel
theorem dX12_nextToken_0 : vm_at cX12_nextToken 0 (.aload_n 0) 1 1 ∧ ((0 : Fin 4) : Nat) = 0 := ⟨⟨vm_row tbX12_nextToken 0 rfl, rfl⟩, rfl⟩
theorem dX12_nextToken_1 : vm_at cX12_nextToken 1 (.getfield 79) 3 4 := ⟨vm_row tbX12_nextToken 1 rfl, rfl⟩
theorem dX12_nextToken_4 : vm_at cX12_nextToken 4 (.aload_n 0) 1 5 ∧ ((0 : Fin 4) : Nat) = 0 := ⟨⟨vm_row tbX12_nextToken 2 rfl, rfl⟩, rfl⟩
theorem dX12_nextToken_5 : vm_at cX12_nextToken 5 (.getfield 73) 3 8 := ⟨vm_row tbX12_nextToken 3 rfl, rfl⟩
theorem dX12_nextToken_8 : vm_br cX12_nextToken 8 (.if_icmp .ge 30) 3 11 (30) 38 := ⟨vm_row tbX12_nextToken 4 rfl, rfl, rfl⟩
theorem dX12_nextToken_11 : vm_at cX12_nextToken 11 (.aload_n 0) 1 12 ∧ ((0 : Fin 4) : Nat) = 0 := ⟨⟨vm_row tbX12_nextToken 5 rfl, rfl⟩, rfl⟩
theorem dX12_nextToken_12 : vm_at cX12_nextToken 12 (.getfield 17) 3 15 := ⟨vm_row tbX12_nextToken 6 rfl, rfl⟩
theorem dX12_nextToken_15 : vm_at cX12_nextToken 15 (.aload_n 0) 1 16 ∧ ((0 : Fin 4) : Nat) = 0 := ⟨⟨vm_row tbX12_nextToken 7 rfl, rfl⟩, rfl⟩
theorem dX12_nextToken_16 : vm_at cX12_nextToken 16 (.getfield 79) 3 19 := ⟨vm_row tbX12_nextToken 8 rfl, rfl⟩
theorem dX12_nextToken_19 : vm_at cX12_nextToken 19 (.iaload) 1 20 := ⟨vm_row tbX12_nextToken 9 rfl, rfl⟩
theorem dX12_nextToken_20 : vm_at cX12_nextToken 20 (.bipush 32) 2 22 ∧ (Int8.ofInt (32)).toInt32 = (32 : Int32) := ⟨⟨vm_row tbX12_nextToken 10 rfl, rfl⟩, z_bipush_32⟩
theorem dX12_nextToken_22 : vm_br cX12_nextToken 22 (.if_icmp .ne 16) 3 25 (16) 38 := ⟨vm_row tbX12_nextToken 11 rfl, rfl, rfl⟩
theorem dX12_nextToken_25 : vm_at cX12_nextToken 25 (.aload_n 0) 1 26 ∧ ((0 : Fin 4) : Nat) = 0 := ⟨⟨vm_row tbX12_nextToken 12 rfl, rfl⟩, rfl⟩
theorem dX12_nextToken_26 : vm_at cX12_nextToken 26 (.dup) 1 27 := ⟨vm_row tbX12_nextToken 13 rfl, rfl⟩
theorem dX12_nextToken_27 : vm_at cX12_nextToken 27 (.getfield 79) 3 30 := ⟨vm_row tbX12_nextToken 14 rfl, rfl⟩
theorem dX12_nextToken_30 : vm_at cX12_nextToken 30 (.iconst 1) 1 31 ∧ Int32.ofInt (1) = (1 : Int32) := ⟨⟨vm_row tbX12_nextToken 15 rfl, rfl⟩, z_iconst_1⟩
theorem dX12_nextToken_31 : vm_at cX12_nextToken 31 (.iadd) 1 32 := ⟨vm_row tbX12_nextToken 16 rfl, rfl⟩
theorem dX12_nextToken_32 : vm_at cX12_nextToken 32 (.putfield 79) 3 35 := ⟨vm_row tbX12_nextToken 17 rfl, rfl⟩
theorem dX12_nextToken_35 : vm_br cX12_nextToken 35 (.goto (-35)) 3 38 (-35) 0 := ⟨vm_row tbX12_nextToken 18 rfl, rfl, rfl⟩
theorem dX12_nextToken_38 : vm_at cX12_nextToken 38 (.aload_n 0) 1 39 ∧ ((0 : Fin 4) : Nat) = 0 := ⟨⟨vm_row tbX12_nextToken 19 rfl, rfl⟩, rfl⟩
theorem dX12_nextToken_39 : vm_at cX12_nextToken 39 (.aload_n 0) 1 40 ∧ ((0 : Fin 4) : Nat) = 0 := ⟨⟨vm_row tbX12_nextToken 20 rfl, rfl⟩, rfl⟩
theorem dX12_nextToken_40 : vm_at cX12_nextToken 40 (.getfield 79) 3 43 := ⟨vm_row tbX12_nextToken 21 rfl, rfl⟩
theorem dX12_nextToken_43 : vm_at cX12_nextToken 43 (.putfield 82) 3 46 := ⟨vm_row tbX12_nextToken 22 rfl, rfl⟩
theorem dX12_nextToken_46 : vm_at cX12_nextToken 46 (.aload_n 0) 1 47 ∧ ((0 : Fin 4) : Nat) = 0 := ⟨⟨vm_row tbX12_nextToken 23 rfl, rfl⟩, rfl⟩
theorem dX12_nextToken_47 : vm_at cX12_nextToken 47 (.iconst 0) 1 48 ∧ Int32.ofInt (0) = (0 : Int32) := ⟨⟨vm_row tbX12_nextToken 24 rfl, rfl⟩, z_iconst_0⟩
theorem dX12_nextToken_48 : vm_at cX12_nextToken 48 (.putfield 85) 3 51 := ⟨vm_row tbX12_nextToken 25 rfl, rfl⟩
theorem dX12_nextToken_51 : vm_at cX12_nextToken 51 (.aload_n 0) 1 52 ∧ ((0 : Fin 4) : Nat) = 0 := ⟨⟨vm_row tbX12_nextToken 26 rfl, rfl⟩, rfl⟩
theorem dX12_nextToken_52 : vm_at cX12_nextToken 52 (.iconst 0) 1 53 ∧ Int32.ofInt (0) = (0 : Int32) := ⟨⟨vm_row tbX12_nextToken 27 rfl, rfl⟩, z_iconst_0⟩
theorem dX12_nextToken_53 : vm_at cX12_nextToken 53 (.putfield 88) 3 56 := ⟨vm_row tbX12_nextToken 28 rfl, rfl⟩
theorem dX12_nextToken_56 : vm_at cX12_nextToken 56 (.aload_n 0) 1 57 ∧ ((0 : Fin 4) : Nat) = 0 := ⟨⟨vm_row tbX12_nextToken 29 rfl, rfl⟩, rfl⟩
theorem dX12_nextToken_57 : vm_at cX12_nextToken 57 (.getfield 79) 3 60 := ⟨vm_row tbX12_nextToken 30 rfl, rfl⟩
theorem dX12_nextToken_60 : vm_at cX12_nextToken 60 (.aload_n 0) 1 61 ∧ ((0 : Fin 4) : Nat) = 0 := ⟨⟨vm_row tbX12_nextToken 31 rfl, rfl⟩, rfl⟩
theorem dX12_nextToken_61 : vm_at cX12_nextToken 61 (.getfield 73) 3 64 := ⟨vm_row tbX12_nextToken 32 rfl, rfl⟩
theorem dX12_nextToken_64 : vm_br cX12_nextToken 64 (.if_icmp .ne 13) 3 67 (13) 77 := ⟨vm_row tbX12_nextToken 33 rfl, rfl, rfl⟩
theorem dX12_nextToken_67 : vm_at cX12_nextToken 67 (.aload_n 0) 1 68 ∧ ((0 : Fin 4) : Nat) = 0 := ⟨⟨vm_row tbX12_nextToken 34 rfl, rfl⟩, rfl⟩
theorem dX12_nextToken_68 : vm_at cX12_nextToken 68 (.ldc2_w 91) 3 71 := ⟨vm_row tbX12_nextToken 35 rfl, rfl⟩
theorem dX12_nextToken_71 : vm_at cX12_nextToken 71 (.putfield 93) 3 74 := ⟨vm_row tbX12_nextToken 36 rfl, rfl⟩
theorem dX12_nextToken_74 : vm_br cX12_nextToken 74 (.goto 306) 3 77 (306) 380 := ⟨vm_row tbX12_nextToken 37 rfl, rfl, rfl⟩
theorem dX12_nextToken_77 : vm_at cX12_nextToken 77 (.aload_n 0) 1 78 ∧ ((0 : Fin 4) : Nat) = 0 := ⟨⟨vm_row tbX12_nextToken 38 rfl, rfl⟩, rfl⟩
theorem dX12_nextToken_78 : vm_at cX12_nextToken 78 (.getfield 17) 3 81 := ⟨vm_row tbX12_nextToken 39 rfl, rfl⟩
theorem dX12_nextToken_81 : vm_at cX12_nextToken 81 (.aload_n 0) 1 82 ∧ ((0 : Fin 4) : Nat) = 0 := ⟨⟨vm_row tbX12_nextToken 40 rfl, rfl⟩, rfl⟩
theorem dX12_nextToken_82 : vm_at cX12_nextToken 82 (.getfield 79) 3 85 := ⟨vm_row tbX12_nextToken 41 rfl, rfl⟩
theorem dX12_nextToken_85 : vm_at cX12_nextToken 85 (.iaload) 1 86 := ⟨vm_row tbX12_nextToken 42 rfl, rfl⟩
theorem dX12_nextToken_86 : vm_at cX12_nextToken 86 (.bipush 97) 2 88 ∧ (Int8.ofInt (97)).toInt32 = (97 : Int32) := ⟨⟨vm_row tbX12_nextToken 43 rfl, rfl⟩, z_bipush_97⟩
theorem dX12_nextToken_88 : vm_at cX12_nextToken 88 (.bipush 122) 2 90 ∧ (Int8.ofInt (122)).toInt32 = (122 : Int32) := ⟨⟨vm_row tbX12_nextToken 44 rfl, rfl⟩, z_bipush_122⟩
theorem dX12_nextToken_90 : vm_at cX12_nextToken 90 (.invokestatic 68) 3 93 := ⟨vm_row tbX12_nextToken 45 rfl, rfl⟩
theorem dX12_nextToken_93 : vm_br cX12_nextToken 93 (.ifCond .eq 129) 3 96 (129) 222 := ⟨vm_row tbX12_nextToken 46 rfl, rfl, rfl⟩
theorem dX12_nextToken_96 : vm_at cX12_nextToken 96 (.aload_n 0) 1 97 ∧ ((0 : Fin 4) : Nat) = 0 := ⟨⟨vm_row tbX12_nextToken 47 rfl, rfl⟩, rfl⟩
theorem dX12_nextToken_97 : vm_at cX12_nextToken 97 (.lconst 0) 1 98 ∧ Int64.ofNat ((0 : Fin 2) : Nat) = (0 : Int64) := ⟨⟨vm_row tbX12_nextToken 48 rfl, rfl⟩, rfl⟩
theorem dX12_nextToken_98 : vm_at cX12_nextToken 98 (.putfield 93) 3 101 := ⟨vm_row tbX12_nextToken 49 rfl, rfl⟩
theorem dX12_nextToken_101 : vm_at cX12_nextToken 101 (.aload_n 0) 1 102 ∧ ((0 : Fin 4) : Nat) = 0 := ⟨⟨vm_row tbX12_nextToken 50 rfl, rfl⟩, rfl⟩
theorem dX12_nextToken_102 : vm_at cX12_nextToken 102 (.getfield 79) 3 105 := ⟨vm_row tbX12_nextToken 51 rfl, rfl⟩
theorem dX12_nextToken_105 : vm_at cX12_nextToken 105 (.aload_n 0) 1 106 ∧ ((0 : Fin 4) : Nat) = 0 := ⟨⟨vm_row tbX12_nextToken 52 rfl, rfl⟩, rfl⟩
theorem dX12_nextToken_106 : vm_at cX12_nextToken 106 (.getfield 73) 3 109 := ⟨vm_row tbX12_nextToken 53 rfl, rfl⟩
theorem dX12_nextToken_109 : vm_br cX12_nextToken 109 (.if_icmp .ge 82) 3 112 (82) 191 := ⟨vm_row tbX12_nextToken 54 rfl, rfl, rfl⟩
theorem dX12_nextToken_112 : vm_at cX12_nextToken 112 (.aload_n 0) 1 113 ∧ ((0 : Fin 4) : Nat) = 0 := ⟨⟨vm_row tbX12_nextToken 55 rfl, rfl⟩, rfl⟩
theorem dX12_nextToken_113 : vm_at cX12_nextToken 113 (.getfield 17) 3 116 := ⟨vm_row tbX12_nextToken 56 rfl, rfl⟩
theorem dX12_nextToken_116 : vm_at cX12_nextToken 116 (.aload_n 0) 1 117 ∧ ((0 : Fin 4) : Nat) = 0 := ⟨⟨vm_row tbX12_nextToken 57 rfl, rfl⟩, rfl⟩
theorem dX12_nextToken_117 : vm_at cX12_nextToken 117 (.getfield 79) 3 120 := ⟨vm_row tbX12_nextToken 58 rfl, rfl⟩
theorem dX12_nextToken_120 : vm_at cX12_nextToken 120 (.iaload) 1 121 := ⟨vm_row tbX12_nextToken 59 rfl, rfl⟩
theorem dX12_nextToken_121 : vm_at cX12_nextToken 121 (.bipush 97) 2 123 ∧ (Int8.ofInt (97)).toInt32 = (97 : Int32) := ⟨⟨vm_row tbX12_nextToken 60 rfl, rfl⟩, z_bipush_97⟩
theorem dX12_nextToken_123 : vm_at cX12_nextToken 123 (.bipush 122) 2 125 ∧ (Int8.ofInt (122)).toInt32 = (122 : Int32) := ⟨⟨vm_row tbX12_nextToken 61 rfl, rfl⟩, z_bipush_122⟩
theorem dX12_nextToken_125 : vm_at cX12_nextToken 125 (.invokestatic 68) 3 128 := ⟨vm_row tbX12_nextToken 62 rfl, rfl⟩
theorem dX12_nextToken_128 : vm_br cX12_nextToken 128 (.ifCond .eq 63) 3 131 (63) 191 := ⟨vm_row tbX12_nextToken 63 rfl, rfl, rfl⟩
theorem dX12_nextToken_131 : vm_at cX12_nextToken 131 (.aload_n 0) 1 132 ∧ ((0 : Fin 4) : Nat) = 0 := ⟨⟨vm_row tbX12_nextToken 64 rfl, rfl⟩, rfl⟩
theorem dX12_nextToken_132 : vm_at cX12_nextToken 132 (.aload_n 0) 1 133 ∧ ((0 : Fin 4) : Nat) = 0 := ⟨⟨vm_row tbX12_nextToken 65 rfl, rfl⟩, rfl⟩
theorem dX12_nextToken_133 : vm_at cX12_nextToken 133 (.getfield 79) 3 136 := ⟨vm_row tbX12_nextToken 66 rfl, rfl⟩
theorem dX12_nextToken_136 : vm_at cX12_nextToken 136 (.aload_n 0) 1 137 ∧ ((0 : Fin 4) : Nat) = 0 := ⟨⟨vm_row tbX12_nextToken 67 rfl, rfl⟩, rfl⟩
theorem dX12_nextToken_137 : vm_at cX12_nextToken 137 (.getfield 82) 3 140 := ⟨vm_row tbX12_nextToken 68 rfl, rfl⟩
theorem dX12_nextToken_140 : vm_at cX12_nextToken 140 (.isub) 1 141 := ⟨vm_row tbX12_nextToken 69 rfl, rfl⟩
theorem dX12_nextToken_141 : vm_at cX12_nextToken 141 (.bipush 9) 2 143 ∧ (Int8.ofInt (9)).toInt32 = (9 : Int32) := ⟨⟨vm_row tbX12_nextToken 70 rfl, rfl⟩, z_bipush_9⟩
theorem dX12_nextToken_143 : vm_br cX12_nextToken 143 (.if_icmp .ge 29) 3 146 (29) 172 := ⟨vm_row tbX12_nextToken 71 rfl, rfl, rfl⟩
theorem dX12_nextToken_146 : vm_at cX12_nextToken 146 (.ldc2_w 97) 3 149 := ⟨vm_row tbX12_nextToken 72 rfl, rfl⟩
theorem dX12_nextToken_149 : vm_at cX12_nextToken 149 (.aload_n 0) 1 150 ∧ ((0 : Fin 4) : Nat) = 0 := ⟨⟨vm_row tbX12_nextToken 73 rfl, rfl⟩, rfl⟩
theorem dX12_nextToken_150 : vm_at cX12_nextToken 150 (.getfield 93) 3 153 := ⟨vm_row tbX12_nextToken 74 rfl, rfl⟩
theorem dX12_nextToken_153 : vm_at cX12_nextToken 153 (.lmul) 1 154 := ⟨vm_row tbX12_nextToken 75 rfl, rfl⟩
theorem dX12_nextToken_154 : vm_at cX12_nextToken 154 (.aload_n 0) 1 155 ∧ ((0 : Fin 4) : Nat) = 0 := ⟨⟨vm_row tbX12_nextToken 76 rfl, rfl⟩, rfl⟩
theorem dX12_nextToken_155 : vm_at cX12_nextToken 155 (.getfield 17) 3 158 := ⟨vm_row tbX12_nextToken 77 rfl, rfl⟩
theorem dX12_nextToken_158 : vm_at cX12_nextToken 158 (.aload_n 0) 1 159 ∧ ((0 : Fin 4) : Nat) = 0 := ⟨⟨vm_row tbX12_nextToken 78 rfl, rfl⟩, rfl⟩
theorem dX12_nextToken_159 : vm_at cX12_nextToken 159 (.getfield 79) 3 162 := ⟨vm_row tbX12_nextToken 79 rfl, rfl⟩
theorem dX12_nextToken_162 : vm_at cX12_nextToken 162 (.iaload) 1 163 := ⟨vm_row tbX12_nextToken 80 rfl, rfl⟩
theorem dX12_nextToken_163 : vm_at cX12_nextToken 163 (.i2l) 1 164 := ⟨vm_row tbX12_nextToken 81 rfl, rfl⟩
theorem dX12_nextToken_164 : vm_at cX12_nextToken 164 (.ladd) 1 165 := ⟨vm_row tbX12_nextToken 82 rfl, rfl⟩
theorem dX12_nextToken_165 : vm_at cX12_nextToken 165 (.ldc2_w 99) 3 168 := ⟨vm_row tbX12_nextToken 83 rfl, rfl⟩
theorem dX12_nextToken_168 : vm_at cX12_nextToken 168 (.lsub) 1 169 := ⟨vm_row tbX12_nextToken 84 rfl, rfl⟩
theorem dX12_nextToken_169 : vm_br cX12_nextToken 169 (.goto 6) 3 172 (6) 175 := ⟨vm_row tbX12_nextToken 85 rfl, rfl, rfl⟩
theorem dX12_nextToken_172 : vm_at cX12_nextToken 172 (.ldc2_w 101) 3 175 := ⟨vm_row tbX12_nextToken 86 rfl, rfl⟩
theorem dX12_nextToken_175 : vm_at cX12_nextToken 175 (.putfield 93) 3 178 := ⟨vm_row tbX12_nextToken 87 rfl, rfl⟩
theorem dX12_nextToken_178 : vm_at cX12_nextToken 178 (.aload_n 0) 1 179 ∧ ((0 : Fin 4) : Nat) = 0 := ⟨⟨vm_row tbX12_nextToken 88 rfl, rfl⟩, rfl⟩
theorem dX12_nextToken_179 : vm_at cX12_nextToken 179 (.dup) 1 180 := ⟨vm_row tbX12_nextToken 89 rfl, rfl⟩
theorem dX12_nextToken_180 : vm_at cX12_nextToken 180 (.getfield 79) 3 183 := ⟨vm_row tbX12_nextToken 90 rfl, rfl⟩
theorem dX12_nextToken_183 : vm_at cX12_nextToken 183 (.iconst 1) 1 184 ∧ Int32.ofInt (1) = (1 : Int32) := ⟨⟨vm_row tbX12_nextToken 91 rfl, rfl⟩, z_iconst_1⟩
theorem dX12_nextToken_184 : vm_at cX12_nextToken 184 (.iadd) 1 185 := ⟨vm_row tbX12_nextToken 92 rfl, rfl⟩
theorem dX12_nextToken_185 : vm_at cX12_nextToken 185 (.putfield 79) 3 188 := ⟨vm_row tbX12_nextToken 93 rfl, rfl⟩
theorem dX12_nextToken_188 : vm_br cX12_nextToken 188 (.goto (-87)) 3 191 (-87) 101 := ⟨vm_row tbX12_nextToken 94 rfl, rfl, rfl⟩
theorem dX12_nextToken_191 : vm_at cX12_nextToken 191 (.aload_n 0) 1 192 ∧ ((0 : Fin 4) : Nat) = 0 := ⟨⟨vm_row tbX12_nextToken 95 rfl, rfl⟩, rfl⟩
theorem dX12_nextToken_192 : vm_at cX12_nextToken 192 (.aload_n 0) 1 193 ∧ ((0 : Fin 4) : Nat) = 0 := ⟨⟨vm_row tbX12_nextToken 96 rfl, rfl⟩, rfl⟩
theorem dX12_nextToken_193 : vm_at cX12_nextToken 193 (.getfield 79) 3 196 := ⟨vm_row tbX12_nextToken 97 rfl, rfl⟩
theorem dX12_nextToken_196 : vm_at cX12_nextToken 196 (.aload_n 0) 1 197 ∧ ((0 : Fin 4) : Nat) = 0 := ⟨⟨vm_row tbX12_nextToken 98 rfl, rfl⟩, rfl⟩
theorem dX12_nextToken_197 : vm_at cX12_nextToken 197 (.getfield 82) 3 200 := ⟨vm_row tbX12_nextToken 99 rfl, rfl⟩
theorem dX12_nextToken_200 : vm_at cX12_nextToken 200 (.isub) 1 201 := ⟨vm_row tbX12_nextToken 100 rfl, rfl⟩
theorem dX12_nextToken_201 : vm_at cX12_nextToken 201 (.bipush 9) 2 203 ∧ (Int8.ofInt (9)).toInt32 = (9 : Int32) := ⟨⟨vm_row tbX12_nextToken 101 rfl, rfl⟩, z_bipush_9⟩
theorem dX12_nextToken_203 : vm_br cX12_nextToken 203 (.if_icmp .le 9) 3 206 (9) 212 := ⟨vm_row tbX12_nextToken 102 rfl, rfl, rfl⟩
theorem dX12_nextToken_206 : vm_at cX12_nextToken 206 (.ldc2_w 101) 3 209 := ⟨vm_row tbX12_nextToken 103 rfl, rfl⟩
theorem dX12_nextToken_209 : vm_br cX12_nextToken 209 (.goto 7) 3 212 (7) 216 := ⟨vm_row tbX12_nextToken 104 rfl, rfl, rfl⟩
theorem dX12_nextToken_212 : vm_at cX12_nextToken 212 (.aload_n 0) 1 213 ∧ ((0 : Fin 4) : Nat) = 0 := ⟨⟨vm_row tbX12_nextToken 105 rfl, rfl⟩, rfl⟩
theorem dX12_nextToken_213 : vm_at cX12_nextToken 213 (.getfield 93) 3 216 := ⟨vm_row tbX12_nextToken 106 rfl, rfl⟩
theorem dX12_nextToken_216 : vm_at cX12_nextToken 216 (.putfield 93) 3 219 := ⟨vm_row tbX12_nextToken 107 rfl, rfl⟩
theorem dX12_nextToken_219 : vm_br cX12_nextToken 219 (.goto 161) 3 222 (161) 380 := ⟨vm_row tbX12_nextToken 108 rfl, rfl, rfl⟩
theorem dX12_nextToken_222 : vm_at cX12_nextToken 222 (.aload_n 0) 1 223 ∧ ((0 : Fin 4) : Nat) = 0 := ⟨⟨vm_row tbX12_nextToken 109 rfl, rfl⟩, rfl⟩
theorem dX12_nextToken_223 : vm_at cX12_nextToken 223 (.getfield 17) 3 226 := ⟨vm_row tbX12_nextToken 110 rfl, rfl⟩
theorem dX12_nextToken_226 : vm_at cX12_nextToken 226 (.aload_n 0) 1 227 ∧ ((0 : Fin 4) : Nat) = 0 := ⟨⟨vm_row tbX12_nextToken 111 rfl, rfl⟩, rfl⟩
theorem dX12_nextToken_227 : vm_at cX12_nextToken 227 (.getfield 79) 3 230 := ⟨vm_row tbX12_nextToken 112 rfl, rfl⟩
theorem dX12_nextToken_230 : vm_at cX12_nextToken 230 (.iaload) 1 231 := ⟨vm_row tbX12_nextToken 113 rfl, rfl⟩
theorem dX12_nextToken_231 : vm_at cX12_nextToken 231 (.bipush 48) 2 233 ∧ (Int8.ofInt (48)).toInt32 = (48 : Int32) := ⟨⟨vm_row tbX12_nextToken 114 rfl, rfl⟩, z_bipush_48⟩
theorem dX12_nextToken_233 : vm_at cX12_nextToken 233 (.bipush 57) 2 235 ∧ (Int8.ofInt (57)).toInt32 = (57 : Int32) := ⟨⟨vm_row tbX12_nextToken 115 rfl, rfl⟩, z_bipush_57⟩
theorem dX12_nextToken_235 : vm_at cX12_nextToken 235 (.invokestatic 68) 3 238 := ⟨vm_row tbX12_nextToken 116 rfl, rfl⟩
theorem dX12_nextToken_238 : vm_br cX12_nextToken 238 (.ifCond .eq 105) 3 241 (105) 343 := ⟨vm_row tbX12_nextToken 117 rfl, rfl, rfl⟩
theorem dX12_nextToken_241 : vm_at cX12_nextToken 241 (.aload_n 0) 1 242 ∧ ((0 : Fin 4) : Nat) = 0 := ⟨⟨vm_row tbX12_nextToken 118 rfl, rfl⟩, rfl⟩
theorem dX12_nextToken_242 : vm_at cX12_nextToken 242 (.getfield 79) 3 245 := ⟨vm_row tbX12_nextToken 119 rfl, rfl⟩
theorem dX12_nextToken_245 : vm_at cX12_nextToken 245 (.aload_n 0) 1 246 ∧ ((0 : Fin 4) : Nat) = 0 := ⟨⟨vm_row tbX12_nextToken 120 rfl, rfl⟩, rfl⟩
theorem dX12_nextToken_246 : vm_at cX12_nextToken 246 (.getfield 73) 3 249 := ⟨vm_row tbX12_nextToken 121 rfl, rfl⟩
theorem dX12_nextToken_249 : vm_br cX12_nextToken 249 (.if_icmp .ge 84) 3 252 (84) 333 := ⟨vm_row tbX12_nextToken 122 rfl, rfl, rfl⟩
theorem dX12_nextToken_252 : vm_at cX12_nextToken 252 (.aload_n 0) 1 253 ∧ ((0 : Fin 4) : Nat) = 0 := ⟨⟨vm_row tbX12_nextToken 123 rfl, rfl⟩, rfl⟩
theorem dX12_nextToken_253 : vm_at cX12_nextToken 253 (.getfield 17) 3 256 := ⟨vm_row tbX12_nextToken 124 rfl, rfl⟩
theorem dX12_nextToken_256 : vm_at cX12_nextToken 256 (.aload_n 0) 1 257 ∧ ((0 : Fin 4) : Nat) = 0 := ⟨⟨vm_row tbX12_nextToken 125 rfl, rfl⟩, rfl⟩
theorem dX12_nextToken_257 : vm_at cX12_nextToken 257 (.getfield 79) 3 260 := ⟨vm_row tbX12_nextToken 126 rfl, rfl⟩
theorem dX12_nextToken_260 : vm_at cX12_nextToken 260 (.iaload) 1 261 := ⟨vm_row tbX12_nextToken 127 rfl, rfl⟩
theorem dX12_nextToken_261 : vm_at cX12_nextToken 261 (.bipush 48) 2 263 ∧ (Int8.ofInt (48)).toInt32 = (48 : Int32) := ⟨⟨vm_row tbX12_nextToken 128 rfl, rfl⟩, z_bipush_48⟩
theorem dX12_nextToken_263 : vm_at cX12_nextToken 263 (.bipush 57) 2 265 ∧ (Int8.ofInt (57)).toInt32 = (57 : Int32) := ⟨⟨vm_row tbX12_nextToken 129 rfl, rfl⟩, z_bipush_57⟩
theorem dX12_nextToken_265 : vm_at cX12_nextToken 265 (.invokestatic 68) 3 268 := ⟨vm_row tbX12_nextToken 130 rfl, rfl⟩
theorem dX12_nextToken_268 : vm_br cX12_nextToken 268 (.ifCond .eq 65) 3 271 (65) 333 := ⟨vm_row tbX12_nextToken 131 rfl, rfl, rfl⟩
theorem dX12_nextToken_271 : vm_at cX12_nextToken 271 (.aload_n 0) 1 272 ∧ ((0 : Fin 4) : Nat) = 0 := ⟨⟨vm_row tbX12_nextToken 132 rfl, rfl⟩, rfl⟩
theorem dX12_nextToken_272 : vm_at cX12_nextToken 272 (.aload_n 0) 1 273 ∧ ((0 : Fin 4) : Nat) = 0 := ⟨⟨vm_row tbX12_nextToken 133 rfl, rfl⟩, rfl⟩
theorem dX12_nextToken_273 : vm_at cX12_nextToken 273 (.getfield 85) 3 276 := ⟨vm_row tbX12_nextToken 134 rfl, rfl⟩
theorem dX12_nextToken_276 : vm_at cX12_nextToken 276 (.iconst 3) 1 277 ∧ Int32.ofInt (3) = (3 : Int32) := ⟨⟨vm_row tbX12_nextToken 135 rfl, rfl⟩, z_iconst_3⟩
theorem dX12_nextToken_277 : vm_br cX12_nextToken 277 (.if_icmp .ge 26) 3 280 (26) 303 := ⟨vm_row tbX12_nextToken 136 rfl, rfl, rfl⟩
theorem dX12_nextToken_280 : vm_at cX12_nextToken 280 (.bipush 10) 2 282 ∧ (Int8.ofInt (10)).toInt32 = (10 : Int32) := ⟨⟨vm_row tbX12_nextToken 137 rfl, rfl⟩, z_bipush_10⟩
theorem dX12_nextToken_282 : vm_at cX12_nextToken 282 (.aload_n 0) 1 283 ∧ ((0 : Fin 4) : Nat) = 0 := ⟨⟨vm_row tbX12_nextToken 138 rfl, rfl⟩, rfl⟩
theorem dX12_nextToken_283 : vm_at cX12_nextToken 283 (.getfield 88) 3 286 := ⟨vm_row tbX12_nextToken 139 rfl, rfl⟩
theorem dX12_nextToken_286 : vm_at cX12_nextToken 286 (.imul) 1 287 := ⟨vm_row tbX12_nextToken 140 rfl, rfl⟩
theorem dX12_nextToken_287 : vm_at cX12_nextToken 287 (.aload_n 0) 1 288 ∧ ((0 : Fin 4) : Nat) = 0 := ⟨⟨vm_row tbX12_nextToken 141 rfl, rfl⟩, rfl⟩
theorem dX12_nextToken_288 : vm_at cX12_nextToken 288 (.getfield 17) 3 291 := ⟨vm_row tbX12_nextToken 142 rfl, rfl⟩
theorem dX12_nextToken_291 : vm_at cX12_nextToken 291 (.aload_n 0) 1 292 ∧ ((0 : Fin 4) : Nat) = 0 := ⟨⟨vm_row tbX12_nextToken 143 rfl, rfl⟩, rfl⟩
theorem dX12_nextToken_292 : vm_at cX12_nextToken 292 (.getfield 79) 3 295 := ⟨vm_row tbX12_nextToken 144 rfl, rfl⟩
theorem dX12_nextToken_295 : vm_at cX12_nextToken 295 (.iaload) 1 296 := ⟨vm_row tbX12_nextToken 145 rfl, rfl⟩
theorem dX12_nextToken_296 : vm_at cX12_nextToken 296 (.iadd) 1 297 := ⟨vm_row tbX12_nextToken 146 rfl, rfl⟩
theorem dX12_nextToken_297 : vm_at cX12_nextToken 297 (.bipush 48) 2 299 ∧ (Int8.ofInt (48)).toInt32 = (48 : Int32) := ⟨⟨vm_row tbX12_nextToken 147 rfl, rfl⟩, z_bipush_48⟩
theorem dX12_nextToken_299 : vm_at cX12_nextToken 299 (.isub) 1 300 := ⟨vm_row tbX12_nextToken 148 rfl, rfl⟩
theorem dX12_nextToken_300 : vm_br cX12_nextToken 300 (.goto 7) 3 303 (7) 307 := ⟨vm_row tbX12_nextToken 149 rfl, rfl, rfl⟩
theorem dX12_nextToken_303 : vm_at cX12_nextToken 303 (.aload_n 0) 1 304 ∧ ((0 : Fin 4) : Nat) = 0 := ⟨⟨vm_row tbX12_nextToken 150 rfl, rfl⟩, rfl⟩
theorem dX12_nextToken_304 : vm_at cX12_nextToken 304 (.getfield 88) 3 307 := ⟨vm_row tbX12_nextToken 151 rfl, rfl⟩
theorem dX12_nextToken_307 : vm_at cX12_nextToken 307 (.putfield 88) 3 310 := ⟨vm_row tbX12_nextToken 152 rfl, rfl⟩
theorem dX12_nextToken_310 : vm_at cX12_nextToken 310 (.aload_n 0) 1 311 ∧ ((0 : Fin 4) : Nat) = 0 := ⟨⟨vm_row tbX12_nextToken 153 rfl, rfl⟩, rfl⟩
theorem dX12_nextToken_311 : vm_at cX12_nextToken 311 (.dup) 1 312 := ⟨vm_row tbX12_nextToken 154 rfl, rfl⟩
theorem dX12_nextToken_312 : vm_at cX12_nextToken 312 (.getfield 85) 3 315 := ⟨vm_row tbX12_nextToken 155 rfl, rfl⟩
theorem dX12_nextToken_315 : vm_at cX12_nextToken 315 (.iconst 1) 1 316 ∧ Int32.ofInt (1) = (1 : Int32) := ⟨⟨vm_row tbX12_nextToken 156 rfl, rfl⟩, z_iconst_1⟩
theorem dX12_nextToken_316 : vm_at cX12_nextToken 316 (.iadd) 1 317 := ⟨vm_row tbX12_nextToken 157 rfl, rfl⟩
theorem dX12_nextToken_317 : vm_at cX12_nextToken 317 (.putfield 85) 3 320 := ⟨vm_row tbX12_nextToken 158 rfl, rfl⟩
theorem dX12_nextToken_320 : vm_at cX12_nextToken 320 (.aload_n 0) 1 321 ∧ ((0 : Fin 4) : Nat) = 0 := ⟨⟨vm_row tbX12_nextToken 159 rfl, rfl⟩, rfl⟩
theorem dX12_nextToken_321 : vm_at cX12_nextToken 321 (.dup) 1 322 := ⟨vm_row tbX12_nextToken 160 rfl, rfl⟩
theorem dX12_nextToken_322 : vm_at cX12_nextToken 322 (.getfield 79) 3 325 := ⟨vm_row tbX12_nextToken 161 rfl, rfl⟩
theorem dX12_nextToken_325 : vm_at cX12_nextToken 325 (.iconst 1) 1 326 ∧ Int32.ofInt (1) = (1 : Int32) := ⟨⟨vm_row tbX12_nextToken 162 rfl, rfl⟩, z_iconst_1⟩
theorem dX12_nextToken_326 : vm_at cX12_nextToken 326 (.iadd) 1 327 := ⟨vm_row tbX12_nextToken 163 rfl, rfl⟩
theorem dX12_nextToken_327 : vm_at cX12_nextToken 327 (.putfield 79) 3 330 := ⟨vm_row tbX12_nextToken 164 rfl, rfl⟩
theorem dX12_nextToken_330 : vm_br cX12_nextToken 330 (.goto (-89)) 3 333 (-89) 241 := ⟨vm_row tbX12_nextToken 165 rfl, rfl, rfl⟩
theorem dX12_nextToken_333 : vm_at cX12_nextToken 333 (.aload_n 0) 1 334 ∧ ((0 : Fin 4) : Nat) = 0 := ⟨⟨vm_row tbX12_nextToken 166 rfl, rfl⟩, rfl⟩
theorem dX12_nextToken_334 : vm_at cX12_nextToken 334 (.ldc2_w 103) 3 337 := ⟨vm_row tbX12_nextToken 167 rfl, rfl⟩
theorem dX12_nextToken_337 : vm_at cX12_nextToken 337 (.putfield 93) 3 340 := ⟨vm_row tbX12_nextToken 168 rfl, rfl⟩
theorem dX12_nextToken_340 : vm_br cX12_nextToken 340 (.goto 40) 3 343 (40) 380 := ⟨vm_row tbX12_nextToken 169 rfl, rfl, rfl⟩
theorem dX12_nextToken_343 : vm_at cX12_nextToken 343 (.aload_n 0) 1 344 ∧ ((0 : Fin 4) : Nat) = 0 := ⟨⟨vm_row tbX12_nextToken 170 rfl, rfl⟩, rfl⟩
theorem dX12_nextToken_344 : vm_at cX12_nextToken 344 (.aload_n 0) 1 345 ∧ ((0 : Fin 4) : Nat) = 0 := ⟨⟨vm_row tbX12_nextToken 171 rfl, rfl⟩, rfl⟩
theorem dX12_nextToken_345 : vm_at cX12_nextToken 345 (.getfield 17) 3 348 := ⟨vm_row tbX12_nextToken 172 rfl, rfl⟩
theorem dX12_nextToken_348 : vm_at cX12_nextToken 348 (.aload_n 0) 1 349 ∧ ((0 : Fin 4) : Nat) = 0 := ⟨⟨vm_row tbX12_nextToken 173 rfl, rfl⟩, rfl⟩
theorem dX12_nextToken_349 : vm_at cX12_nextToken 349 (.getfield 79) 3 352 := ⟨vm_row tbX12_nextToken 174 rfl, rfl⟩
theorem dX12_nextToken_352 : vm_at cX12_nextToken 352 (.iaload) 1 353 := ⟨vm_row tbX12_nextToken 175 rfl, rfl⟩
theorem dX12_nextToken_353 : vm_at cX12_nextToken 353 (.bipush 59) 2 355 ∧ (Int8.ofInt (59)).toInt32 = (59 : Int32) := ⟨⟨vm_row tbX12_nextToken 176 rfl, rfl⟩, z_bipush_59⟩
theorem dX12_nextToken_355 : vm_br cX12_nextToken 355 (.if_icmp .ne 9) 3 358 (9) 364 := ⟨vm_row tbX12_nextToken 177 rfl, rfl, rfl⟩
theorem dX12_nextToken_358 : vm_at cX12_nextToken 358 (.ldc2_w 105) 3 361 := ⟨vm_row tbX12_nextToken 178 rfl, rfl⟩
theorem dX12_nextToken_361 : vm_br cX12_nextToken 361 (.goto 6) 3 364 (6) 367 := ⟨vm_row tbX12_nextToken 179 rfl, rfl, rfl⟩
theorem dX12_nextToken_364 : vm_at cX12_nextToken 364 (.ldc2_w 101) 3 367 := ⟨vm_row tbX12_nextToken 180 rfl, rfl⟩
theorem dX12_nextToken_367 : vm_at cX12_nextToken 367 (.putfield 93) 3 370 := ⟨vm_row tbX12_nextToken 181 rfl, rfl⟩
theorem dX12_nextToken_370 : vm_at cX12_nextToken 370 (.aload_n 0) 1 371 ∧ ((0 : Fin 4) : Nat) = 0 := ⟨⟨vm_row tbX12_nextToken 182 rfl, rfl⟩, rfl⟩
theorem dX12_nextToken_371 : vm_at cX12_nextToken 371 (.dup) 1 372 := ⟨vm_row tbX12_nextToken 183 rfl, rfl⟩
theorem dX12_nextToken_372 : vm_at cX12_nextToken 372 (.getfield 79) 3 375 := ⟨vm_row tbX12_nextToken 184 rfl, rfl⟩
theorem dX12_nextToken_375 : vm_at cX12_nextToken 375 (.iconst 1) 1 376 ∧ Int32.ofInt (1) = (1 : Int32) := ⟨⟨vm_row tbX12_nextToken 185 rfl, rfl⟩, z_iconst_1⟩
theorem dX12_nextToken_376 : vm_at cX12_nextToken 376 (.iadd) 1 377 := ⟨vm_row tbX12_nextToken 186 rfl, rfl⟩
theorem dX12_nextToken_377 : vm_at cX12_nextToken 377 (.putfield 79) 3 380 := ⟨vm_row tbX12_nextToken 187 rfl, rfl⟩
theorem dX12_nextToken_380 : vm_at cX12_nextToken 380 (.return_) 1 381 := ⟨vm_row tbX12_nextToken 188 rfl, rfl⟩
def tlX12_fails : List (Nat × Instr × Nat) := [(0, .aload_n 0, 1), (1, .aload_n 0, 1), (2, .getfield 82, 3), (5, .putfield 20, 3), (8, .aload_n 0, 1), (9, .iload_n 1, 1), (10, .putfield 107, 3), (13, .iconst 0, 1), (14, .ireturn, 1)]
theorem tbX12_fails : vm_chk cX12_fails tlX12_fails = true := by decide +kernel
theorem dX12_fails_0 : vm_at cX12_fails 0 (.aload_n 0) 1 1 ∧ ((0 : Fin 4) : Nat) = 0 := ⟨⟨vm_row tbX12_fails 0 rfl, rfl⟩, rfl⟩
theorem dX12_fails_1 : vm_at cX12_fails 1 (.aload_n 0) 1 2 ∧ ((0 : Fin 4) : Nat) = 0 := ⟨⟨vm_row tbX12_fails 1 rfl, rfl⟩, rfl⟩
theorem dX12_fails_2 : vm_at cX12_fails 2 (.getfield 82) 3 5 := ⟨vm_row tbX12_fails 2 rfl, rfl⟩
theorem dX12_fails_5 : vm_at cX12_fails 5 (.putfield 20) 3 8 := ⟨vm_row tbX12_fails 3 rfl, rfl⟩
theorem dX12_fails_8 : vm_at cX12_fails 8 (.aload_n 0) 1 9 ∧ ((0 : Fin 4) : Nat) = 0 := ⟨⟨vm_row tbX12_fails 4 rfl, rfl⟩, rfl⟩
theorem dX12_fails_9 : vm_at cX12_fails 9 (.iload_n 1) 1 10 ∧ ((1 : Fin 4) : Nat) = 1 := ⟨⟨vm_row tbX12_fails 5 rfl, rfl⟩, rfl⟩
theorem dX12_fails_10 : vm_at cX12_fails 10 (.putfield 107) 3 13 := ⟨vm_row tbX12_fails 6 rfl, rfl⟩
theorem dX12_fails_13 : vm_at cX12_fails 13 (.iconst 0) 1 14 ∧ Int32.ofInt (0) = (0 : Int32) := ⟨⟨vm_row tbX12_fails 7 rfl, rfl⟩, z_iconst_0⟩
theorem dX12_fails_14 : vm_at cX12_fails 14 (.ireturn) 1 15 := ⟨vm_row tbX12_fails 8 rfl, rfl⟩
def tlX12_isNext : List (Nat × Instr × Nat) := [(0, .aload_n 0, 1), (1, .invokevirtual 110, 3), (4, .aload_n 0, 1), (5, .getfield 93, 3), (8, .ldc2_w 103, 3), (11, .lcmp, 1), (12, .ifCond .eq 9, 3), (15, .aload_n 0, 1), (16, .iconst 1, 1), (17, .invokevirtual 113, 3), (20, .ireturn, 1), (21, .aload_n 0, 1), (22, .getfield 85, 3), (25, .iconst 3, 1), (26, .if_icmp .gt 15, 3), (29, .aload_n 0, 1), (30, .getfield 88, 3), (33, .iload_n 2, 1), (34, .iload_n 3, 1), (35, .invokestatic 68, 3), (38, .ifCond .ne 9, 3), (41, .aload_n 0, 1), (42, .iconst 2, 1), (43, .invokevirtual 113, 3), (46, .ireturn, 1), (47, .iload_n 1, 1), (48, .ifCond .lt 13, 3), (51, .aload_n 0, 1), (52, .getfield 23, 3), (55, .iload_n 1, 1), (56, .aload_n 0, 1), (57, .getfield 88, 3), (60, .iastore, 1), (61, .iconst 1, 1), (62, .ireturn, 1)]
theorem tbX12_isNext : vm_chk cX12_isNext tlX12_isNext = true := by decide +kernel
theorem dX12_isNext_0 : vm_at cX12_isNext 0 (.aload_n 0) 1 1 ∧ ((0 : Fin 4) : Nat) = 0 := ⟨⟨vm_row tbX12_isNext 0 rfl, rfl⟩, rfl⟩
theorem dX12_isNext_1 : vm_at cX12_isNext 1 (.invokevirtual 110) 3 4 := ⟨vm_row tbX12_isNext 1 rfl, rfl⟩
theorem dX12_isNext_4 : vm_at cX12_isNext 4 (.aload_n 0) 1 5 ∧ ((0 : Fin 4) : Nat) = 0 := ⟨⟨vm_row tbX12_isNext 2 rfl, rfl⟩, rfl⟩
theorem dX12_isNext_5 : vm_at cX12_isNext 5 (.getfield 93) 3 8 := ⟨vm_row tbX12_isNext 3 rfl, rfl⟩
theorem dX12_isNext_8 : vm_at cX12_isNext 8 (.ldc2_w 103) 3 11 := ⟨vm_row tbX12_isNext 4 rfl, rfl⟩
theorem dX12_isNext_11 : vm_at cX12_isNext 11 (.lcmp) 1 12 := ⟨vm_row tbX12_isNext 5 rfl, rfl⟩
theorem dX12_isNext_12 : vm_br cX12_isNext 12 (.ifCond .eq 9) 3 15 (9) 21 := ⟨vm_row tbX12_isNext 6 rfl, rfl, rfl⟩
theorem dX12_isNext_15 : vm_at cX12_isNext 15 (.aload_n 0) 1 16 ∧ ((0 : Fin 4) : Nat) = 0 := ⟨⟨vm_row tbX12_isNext 7 rfl, rfl⟩, rfl⟩
theorem dX12_isNext_16 : vm_at cX12_isNext 16 (.iconst 1) 1 17 ∧ Int32.ofInt (1) = (1 : Int32) := ⟨⟨vm_row tbX12_isNext 8 rfl, rfl⟩, z_iconst_1⟩
theorem dX12_isNext_17 : vm_at cX12_isNext 17 (.invokevirtual 113) 3 20 := ⟨vm_row tbX12_isNext 9 rfl, rfl⟩
theorem dX12_isNext_20 : vm_at cX12_isNext 20 (.ireturn) 1 21 := ⟨vm_row tbX12_isNext 10 rfl, rfl⟩
theorem dX12_isNext_21 : vm_at cX12_isNext 21 (.aload_n 0) 1 22 ∧ ((0 : Fin 4) : Nat) = 0 := ⟨⟨vm_row tbX12_isNext 11 rfl, rfl⟩, rfl⟩
theorem dX12_isNext_22 : vm_at cX12_isNext 22 (.getfield 85) 3 25 := ⟨vm_row tbX12_isNext 12 rfl, rfl⟩
theorem dX12_isNext_25 : vm_at cX12_isNext 25 (.iconst 3) 1 26 ∧ Int32.ofInt (3) = (3 : Int32) := ⟨⟨vm_row tbX12_isNext 13 rfl, rfl⟩, z_iconst_3⟩
theorem dX12_isNext_26 : vm_br cX12_isNext 26 (.if_icmp .gt 15) 3 29 (15) 41 := ⟨vm_row tbX12_isNext 14 rfl, rfl, rfl⟩
theorem dX12_isNext_29 : vm_at cX12_isNext 29 (.aload_n 0) 1 30 ∧ ((0 : Fin 4) : Nat) = 0 := ⟨⟨vm_row tbX12_isNext 15 rfl, rfl⟩, rfl⟩
theorem dX12_isNext_30 : vm_at cX12_isNext 30 (.getfield 88) 3 33 := ⟨vm_row tbX12_isNext 16 rfl, rfl⟩
theorem dX12_isNext_33 : vm_at cX12_isNext 33 (.iload_n 2) 1 34 ∧ ((2 : Fin 4) : Nat) = 2 := ⟨⟨vm_row tbX12_isNext 17 rfl, rfl⟩, rfl⟩
theorem dX12_isNext_34 : vm_at cX12_isNext 34 (.iload_n 3) 1 35 ∧ ((3 : Fin 4) : Nat) = 3 := ⟨⟨vm_row tbX12_isNext 18 rfl, rfl⟩, rfl⟩
theorem dX12_isNext_35 : vm_at cX12_isNext 35 (.invokestatic 68) 3 38 := ⟨vm_row tbX12_isNext 19 rfl, rfl⟩
theorem dX12_isNext_38 : vm_br cX12_isNext 38 (.ifCond .ne 9) 3 41 (9) 47 := ⟨vm_row tbX12_isNext 20 rfl, rfl, rfl⟩
theorem dX12_isNext_41 : vm_at cX12_isNext 41 (.aload_n 0) 1 42 ∧ ((0 : Fin 4) : Nat) = 0 := ⟨⟨vm_row tbX12_isNext 21 rfl, rfl⟩, rfl⟩
theorem dX12_isNext_42 : vm_at cX12_isNext 42 (.iconst 2) 1 43 ∧ Int32.ofInt (2) = (2 : Int32) := ⟨⟨vm_row tbX12_isNext 22 rfl, rfl⟩, z_iconst_2⟩
theorem dX12_isNext_43 : vm_at cX12_isNext 43 (.invokevirtual 113) 3 46 := ⟨vm_row tbX12_isNext 23 rfl, rfl⟩
theorem dX12_isNext_46 : vm_at cX12_isNext 46 (.ireturn) 1 47 := ⟨vm_row tbX12_isNext 24 rfl, rfl⟩
theorem dX12_isNext_47 : vm_at cX12_isNext 47 (.iload_n 1) 1 48 ∧ ((1 : Fin 4) : Nat) = 1 := ⟨⟨vm_row tbX12_isNext 25 rfl, rfl⟩, rfl⟩
theorem dX12_isNext_48 : vm_br cX12_isNext 48 (.ifCond .lt 13) 3 51 (13) 61 := ⟨vm_row tbX12_isNext 26 rfl, rfl, rfl⟩
theorem dX12_isNext_51 : vm_at cX12_isNext 51 (.aload_n 0) 1 52 ∧ ((0 : Fin 4) : Nat) = 0 := ⟨⟨vm_row tbX12_isNext 27 rfl, rfl⟩, rfl⟩
theorem dX12_isNext_52 : vm_at cX12_isNext 52 (.getfield 23) 3 55 := ⟨vm_row tbX12_isNext 28 rfl, rfl⟩
theorem dX12_isNext_55 : vm_at cX12_isNext 55 (.iload_n 1) 1 56 ∧ ((1 : Fin 4) : Nat) = 1 := ⟨⟨vm_row tbX12_isNext 29 rfl, rfl⟩, rfl⟩
theorem dX12_isNext_56 : vm_at cX12_isNext 56 (.aload_n 0) 1 57 ∧ ((0 : Fin 4) : Nat) = 0 := ⟨⟨vm_row tbX12_isNext 30 rfl, rfl⟩, rfl⟩
theorem dX12_isNext_57 : vm_at cX12_isNext 57 (.getfield 88) 3 60 := ⟨vm_row tbX12_isNext 31 rfl, rfl⟩
theorem dX12_isNext_60 : vm_at cX12_isNext 60 (.iastore) 1 61 := ⟨vm_row tbX12_isNext 32 rfl, rfl⟩
theorem dX12_isNext_61 : vm_at cX12_isNext 61 (.iconst 1) 1 62 ∧ Int32.ofInt (1) = (1 : Int32) := ⟨⟨vm_row tbX12_isNext 33 rfl, rfl⟩, z_iconst_1⟩
theorem dX12_isNext_62 : vm_at cX12_isNext 62 (.ireturn) 1 63 := ⟨vm_row tbX12_isNext 34 rfl, rfl⟩
def tlX12_ends : List (Nat × Instr × Nat) := [(0, .aload_n 0, 1), (1, .invokevirtual 110, 3), (4, .aload_n 0, 1), (5, .getfield 93, 3), (8, .ldc2_w 105, 3), (11, .lcmp, 1), (12, .ifCond .eq 11, 3), (15, .aload_n 0, 1), (16, .iconst 1, 1), (17, .invokevirtual 113, 3), (20, .ifCond .eq 7, 3), (23, .iconst 1, 1), (24, .goto 4, 3), (27, .iconst 0, 1), (28, .ireturn, 1)]
theorem tbX12_ends : vm_chk cX12_ends tlX12_ends = true := by decide +kernel
theorem dX12_ends_0 : vm_at cX12_ends 0 (.aload_n 0) 1 1 ∧ ((0 : Fin 4) : Nat) = 0 := ⟨⟨vm_row tbX12_ends 0 rfl, rfl⟩, rfl⟩
theorem dX12_ends_1 : vm_at cX12_ends 1 (.invokevirtual 110) 3 4 := ⟨vm_row tbX12_ends 1 rfl, rfl⟩
theorem dX12_ends_4 : vm_at cX12_ends 4 (.aload_n 0) 1 5 ∧ ((0 : Fin 4) : Nat) = 0 := ⟨⟨vm_row tbX12_ends 2 rfl, rfl⟩, rfl⟩
theorem dX12_ends_5 : vm_at cX12_ends 5 (.getfield 93) 3 8 := ⟨vm_row tbX12_ends 3 rfl, rfl⟩
theorem dX12_ends_8 : vm_at cX12_ends 8 (.ldc2_w 105) 3 11 := ⟨vm_row tbX12_ends 4 rfl, rfl⟩
theorem dX12_ends_11 : vm_at cX12_ends 11 (.lcmp) 1 12 := ⟨vm_row tbX12_ends 5 rfl, rfl⟩
theorem dX12_ends_12 : vm_br cX12_ends 12 (.ifCond .eq 11) 3 15 (11) 23 := ⟨vm_row tbX12_ends 6 rfl, rfl, rfl⟩
theorem dX12_ends_15 : vm_at cX12_ends 15 (.aload_n 0) 1 16 ∧ ((0 : Fin 4) : Nat) = 0 := ⟨⟨vm_row tbX12_ends 7 rfl, rfl⟩, rfl⟩
theorem dX12_ends_16 : vm_at cX12_ends 16 (.iconst 1) 1 17 ∧ Int32.ofInt (1) = (1 : Int32) := ⟨⟨vm_row tbX12_ends 8 rfl, rfl⟩, z_iconst_1⟩
theorem dX12_ends_17 : vm_at cX12_ends 17 (.invokevirtual 113) 3 20 := ⟨vm_row tbX12_ends 9 rfl, rfl⟩
theorem dX12_ends_20 : vm_br cX12_ends 20 (.ifCond .eq 7) 3 23 (7) 27 := ⟨vm_row tbX12_ends 10 rfl, rfl, rfl⟩
theorem dX12_ends_23 : vm_at cX12_ends 23 (.iconst 1) 1 24 ∧ Int32.ofInt (1) = (1 : Int32) := ⟨⟨vm_row tbX12_ends 11 rfl, rfl⟩, z_iconst_1⟩
theorem dX12_ends_24 : vm_br cX12_ends 24 (.goto 4) 3 27 (4) 28 := ⟨vm_row tbX12_ends 12 rfl, rfl, rfl⟩
theorem dX12_ends_27 : vm_at cX12_ends 27 (.iconst 0) 1 28 ∧ Int32.ofInt (0) = (0 : Int32) := ⟨⟨vm_row tbX12_ends 13 rfl, rfl⟩, z_iconst_0⟩
theorem dX12_ends_28 : vm_at cX12_ends 28 (.ireturn) 1 29 := ⟨vm_row tbX12_ends 14 rfl, rfl⟩
def tlX12_isDial : List (Nat × Instr × Nat) := [(0, .aload_n 0, 1), (1, .invokevirtual 110, 3), (4, .aload_n 0, 1), (5, .aload_n 0, 1), (6, .getfield 93, 3), (9, .ldc2_w 117, 3), (12, .lcmp, 1), (13, .ifCond .ne 7, 3), (16, .iconst 0, 1), (17, .goto 19, 3), (20, .aload_n 0, 1), (21, .getfield 93, 3), (24, .ldc2_w 119, 3), (27, .lcmp, 1), (28, .ifCond .ne 7, 3), (31, .iconst 1, 1), (32, .goto 4, 3), (35, .iconst (-1), 1), (36, .putfield 121, 3), (39, .aload_n 0, 1), (40, .getfield 121, 3), (43, .iconst (-1), 1), (44, .if_icmp .ne 9, 3), (47, .aload_n 0, 1), (48, .iconst 1, 1), (49, .invokevirtual 113, 3), (52, .ireturn, 1), (53, .aload_n 0, 1), (54, .iconst (-1), 1), (55, .iconst 2, 1), (56, .bipush 10, 2), (58, .invokevirtual 124, 3), (61, .ifCond .ne 5, 3), (64, .iconst 0, 1), (65, .ireturn, 1), (66, .aload_n 0, 1), (67, .aload_n 0, 1), (68, .getfield 88, 3), (71, .putfield 127, 3), (74, .aload_n 0, 1), (75, .iconst (-1), 1), (76, .iconst 1, 1), (77, .bipush 6, 2), (79, .invokevirtual 124, 3), (82, .ifCond .ne 5, 3), (85, .iconst 0, 1), (86, .ireturn, 1), (87, .aload_n 0, 1), (88, .aload_n 0, 1), (89, .getfield 88, 3), (92, .putfield 130, 3), (95, .aload_n 0, 1), (96, .iconst 1, 1), (97, .putfield 133, 3), (100, .iconst 0, 1), (101, .istore_n 1, 1), (102, .iload_n 1, 1), (103, .aload_n 0, 1), (104, .getfield 130, 3), (107, .if_icmp .ge 42, 3), (110, .aload_n 0, 1), (111, .aload_n 0, 1), (112, .getfield 133, 3), (115, .aload_n 0, 1), (116, .getfield 127, 3), (119, .imul, 1), (120, .bipush 100, 2), (122, .if_icmp .le 9, 3), (125, .sipush 1000, 3), (128, .goto 12, 3), (131, .aload_n 0, 1), (132, .getfield 133, 3), (135, .aload_n 0, 1), (136, .getfield 127, 3), (139, .imul, 1), (140, .putfield 133, 3), (143, .iinc 1 1, 3), (146, .goto (-44), 3), (149, .aload_n 0, 1), (150, .getfield 133, 3), (153, .bipush 100, 2), (155, .if_icmp .le 11, 3), (158, .aload_n 0, 1), (159, .iconst 2, 1), (160, .invokevirtual 113, 3), (163, .goto 7, 3), (166, .aload_n 0, 1), (167, .invokevirtual 136, 3), (170, .ireturn, 1)]
theorem tbX12_isDial : vm_chk cX12_isDial tlX12_isDial = true := by decide +kernel
theorem dX12_isDial_0 : vm_at cX12_isDial 0 (.aload_n 0) 1 1 ∧ ((0 : Fin 4) : Nat) = 0 := ⟨⟨vm_row tbX12_isDial 0 rfl, rfl⟩, rfl⟩
theorem dX12_isDial_1 : vm_at cX12_isDial 1 (.invokevirtual 110) 3 4 := ⟨vm_row tbX12_isDial 1 rfl, rfl⟩
theorem dX12_isDial_4 : vm_at cX12_isDial 4 (.aload_n 0) 1 5 ∧ ((0 : Fin 4) : Nat) = 0 := ⟨⟨vm_row tbX12_isDial 2 rfl, rfl⟩, rfl⟩
theorem dX12_isDial_5 : vm_at cX12_isDial 5 (.aload_n 0) 1 6 ∧ ((0 : Fin 4) : Nat) = 0 := ⟨⟨vm_row tbX12_isDial 3 rfl, rfl⟩, rfl⟩
theorem dX12_isDial_6 : vm_at cX12_isDial 6 (.getfield 93) 3 9 := ⟨vm_row tbX12_isDial 4 rfl, rfl⟩
theorem dX12_isDial_9 : vm_at cX12_isDial 9 (.ldc2_w 117) 3 12 := ⟨vm_row tbX12_isDial 5 rfl, rfl⟩
theorem dX12_isDial_12 : vm_at cX12_isDial 12 (.lcmp) 1 13 := ⟨vm_row tbX12_isDial 6 rfl, rfl⟩
theorem dX12_isDial_13 : vm_br cX12_isDial 13 (.ifCond .ne 7) 3 16 (7) 20 := ⟨vm_row tbX12_isDial 7 rfl, rfl, rfl⟩
theorem dX12_isDial_16 : vm_at cX12_isDial 16 (.iconst 0) 1 17 ∧ Int32.ofInt (0) = (0 : Int32) := ⟨⟨vm_row tbX12_isDial 8 rfl, rfl⟩, z_iconst_0⟩
theorem dX12_isDial_17 : vm_br cX12_isDial 17 (.goto 19) 3 20 (19) 36 := ⟨vm_row tbX12_isDial 9 rfl, rfl, rfl⟩
theorem dX12_isDial_20 : vm_at cX12_isDial 20 (.aload_n 0) 1 21 ∧ ((0 : Fin 4) : Nat) = 0 := ⟨⟨vm_row tbX12_isDial 10 rfl, rfl⟩, rfl⟩
theorem dX12_isDial_21 : vm_at cX12_isDial 21 (.getfield 93) 3 24 := ⟨vm_row tbX12_isDial 11 rfl, rfl⟩
theorem dX12_isDial_24 : vm_at cX12_isDial 24 (.ldc2_w 119) 3 27 := ⟨vm_row tbX12_isDial 12 rfl, rfl⟩
theorem dX12_isDial_27 : vm_at cX12_isDial 27 (.lcmp) 1 28 := ⟨vm_row tbX12_isDial 13 rfl, rfl⟩
theorem dX12_isDial_28 : vm_br cX12_isDial 28 (.ifCond .ne 7) 3 31 (7) 35 := ⟨vm_row tbX12_isDial 14 rfl, rfl, rfl⟩
theorem dX12_isDial_31 : vm_at cX12_isDial 31 (.iconst 1) 1 32 ∧ Int32.ofInt (1) = (1 : Int32) := ⟨⟨vm_row tbX12_isDial 15 rfl, rfl⟩, z_iconst_1⟩
theorem dX12_isDial_32 : vm_br cX12_isDial 32 (.goto 4) 3 35 (4) 36 := ⟨vm_row tbX12_isDial 16 rfl, rfl, rfl⟩
theorem dX12_isDial_35 : vm_at cX12_isDial 35 (.iconst (-1)) 1 36 ∧ Int32.ofInt (-1) = (-1 : Int32) := ⟨⟨vm_row tbX12_isDial 17 rfl, rfl⟩, z_iconst_m1⟩
theorem dX12_isDial_36 : vm_at cX12_isDial 36 (.putfield 121) 3 39 := ⟨vm_row tbX12_isDial 18 rfl, rfl⟩
theorem dX12_isDial_39 : vm_at cX12_isDial 39 (.aload_n 0) 1 40 ∧ ((0 : Fin 4) : Nat) = 0 := ⟨⟨vm_row tbX12_isDial 19 rfl, rfl⟩, rfl⟩
theorem dX12_isDial_40 : vm_at cX12_isDial 40 (.getfield 121) 3 43 := ⟨vm_row tbX12_isDial 20 rfl, rfl⟩
theorem dX12_isDial_43 : vm_at cX12_isDial 43 (.iconst (-1)) 1 44 ∧ Int32.ofInt (-1) = (-1 : Int32) := ⟨⟨vm_row tbX12_isDial 21 rfl, rfl⟩, z_iconst_m1⟩
theorem dX12_isDial_44 : vm_br cX12_isDial 44 (.if_icmp .ne 9) 3 47 (9) 53 := ⟨vm_row tbX12_isDial 22 rfl, rfl, rfl⟩
theorem dX12_isDial_47 : vm_at cX12_isDial 47 (.aload_n 0) 1 48 ∧ ((0 : Fin 4) : Nat) = 0 := ⟨⟨vm_row tbX12_isDial 23 rfl, rfl⟩, rfl⟩
theorem dX12_isDial_48 : vm_at cX12_isDial 48 (.iconst 1) 1 49 ∧ Int32.ofInt (1) = (1 : Int32) := ⟨⟨vm_row tbX12_isDial 24 rfl, rfl⟩, z_iconst_1⟩
theorem dX12_isDial_49 : vm_at cX12_isDial 49 (.invokevirtual 113) 3 52 := ⟨vm_row tbX12_isDial 25 rfl, rfl⟩
theorem dX12_isDial_52 : vm_at cX12_isDial 52 (.ireturn) 1 53 := ⟨vm_row tbX12_isDial 26 rfl, rfl⟩
theorem dX12_isDial_53 : vm_at cX12_isDial 53 (.aload_n 0) 1 54 ∧ ((0 : Fin 4) : Nat) = 0 := ⟨⟨vm_row tbX12_isDial 27 rfl, rfl⟩, rfl⟩
theorem dX12_isDial_54 : vm_at cX12_isDial 54 (.iconst (-1)) 1 55 ∧ Int32.ofInt (-1) = (-1 : Int32) := ⟨⟨vm_row tbX12_isDial 28 rfl, rfl⟩, z_iconst_m1⟩
theorem dX12_isDial_55 : vm_at cX12_isDial 55 (.iconst 2) 1 56 ∧ Int32.ofInt (2) = (2 : Int32) := ⟨⟨vm_row tbX12_isDial 29 rfl, rfl⟩, z_iconst_2⟩
theorem dX12_isDial_56 : vm_at cX12_isDial 56 (.bipush 10) 2 58 ∧ (Int8.ofInt (10)).toInt32 = (10 : Int32) := ⟨⟨vm_row tbX12_isDial 30 rfl, rfl⟩, z_bipush_10⟩
theorem dX12_isDial_58 : vm_at cX12_isDial 58 (.invokevirtual 124) 3 61 := ⟨vm_row tbX12_isDial 31 rfl, rfl⟩
theorem dX12_isDial_61 : vm_br cX12_isDial 61 (.ifCond .ne 5) 3 64 (5) 66 := ⟨vm_row tbX12_isDial 32 rfl, rfl, rfl⟩
theorem dX12_isDial_64 : vm_at cX12_isDial 64 (.iconst 0) 1 65 ∧ Int32.ofInt (0) = (0 : Int32) := ⟨⟨vm_row tbX12_isDial 33 rfl, rfl⟩, z_iconst_0⟩
theorem dX12_isDial_65 : vm_at cX12_isDial 65 (.ireturn) 1 66 := ⟨vm_row tbX12_isDial 34 rfl, rfl⟩
theorem dX12_isDial_66 : vm_at cX12_isDial 66 (.aload_n 0) 1 67 ∧ ((0 : Fin 4) : Nat) = 0 := ⟨⟨vm_row tbX12_isDial 35 rfl, rfl⟩, rfl⟩
theorem dX12_isDial_67 : vm_at cX12_isDial 67 (.aload_n 0) 1 68 ∧ ((0 : Fin 4) : Nat) = 0 := ⟨⟨vm_row tbX12_isDial 36 rfl, rfl⟩, rfl⟩
theorem dX12_isDial_68 : vm_at cX12_isDial 68 (.getfield 88) 3 71 := ⟨vm_row tbX12_isDial 37 rfl, rfl⟩
theorem dX12_isDial_71 : vm_at cX12_isDial 71 (.putfield 127) 3 74 := ⟨vm_row tbX12_isDial 38 rfl, rfl⟩
theorem dX12_isDial_74 : vm_at cX12_isDial 74 (.aload_n 0) 1 75 ∧ ((0 : Fin 4) : Nat) = 0 := ⟨⟨vm_row tbX12_isDial 39 rfl, rfl⟩, rfl⟩
theorem dX12_isDial_75 : vm_at cX12_isDial 75 (.iconst (-1)) 1 76 ∧ Int32.ofInt (-1) = (-1 : Int32) := ⟨⟨vm_row tbX12_isDial 40 rfl, rfl⟩, z_iconst_m1⟩
theorem dX12_isDial_76 : vm_at cX12_isDial 76 (.iconst 1) 1 77 ∧ Int32.ofInt (1) = (1 : Int32) := ⟨⟨vm_row tbX12_isDial 41 rfl, rfl⟩, z_iconst_1⟩
theorem dX12_isDial_77 : vm_at cX12_isDial 77 (.bipush 6) 2 79 ∧ (Int8.ofInt (6)).toInt32 = (6 : Int32) := ⟨⟨vm_row tbX12_isDial 42 rfl, rfl⟩, z_bipush_6⟩
theorem dX12_isDial_79 : vm_at cX12_isDial 79 (.invokevirtual 124) 3 82 := ⟨vm_row tbX12_isDial 43 rfl, rfl⟩
theorem dX12_isDial_82 : vm_br cX12_isDial 82 (.ifCond .ne 5) 3 85 (5) 87 := ⟨vm_row tbX12_isDial 44 rfl, rfl, rfl⟩
theorem dX12_isDial_85 : vm_at cX12_isDial 85 (.iconst 0) 1 86 ∧ Int32.ofInt (0) = (0 : Int32) := ⟨⟨vm_row tbX12_isDial 45 rfl, rfl⟩, z_iconst_0⟩
theorem dX12_isDial_86 : vm_at cX12_isDial 86 (.ireturn) 1 87 := ⟨vm_row tbX12_isDial 46 rfl, rfl⟩
theorem dX12_isDial_87 : vm_at cX12_isDial 87 (.aload_n 0) 1 88 ∧ ((0 : Fin 4) : Nat) = 0 := ⟨⟨vm_row tbX12_isDial 47 rfl, rfl⟩, rfl⟩
theorem dX12_isDial_88 : vm_at cX12_isDial 88 (.aload_n 0) 1 89 ∧ ((0 : Fin 4) : Nat) = 0 := ⟨⟨vm_row tbX12_isDial 48 rfl, rfl⟩, rfl⟩
theorem dX12_isDial_89 : vm_at cX12_isDial 89 (.getfield 88) 3 92 := ⟨vm_row tbX12_isDial 49 rfl, rfl⟩
theorem dX12_isDial_92 : vm_at cX12_isDial 92 (.putfield 130) 3 95 := ⟨vm_row tbX12_isDial 50 rfl, rfl⟩
theorem dX12_isDial_95 : vm_at cX12_isDial 95 (.aload_n 0) 1 96 ∧ ((0 : Fin 4) : Nat) = 0 := ⟨⟨vm_row tbX12_isDial 51 rfl, rfl⟩, rfl⟩
theorem dX12_isDial_96 : vm_at cX12_isDial 96 (.iconst 1) 1 97 ∧ Int32.ofInt (1) = (1 : Int32) := ⟨⟨vm_row tbX12_isDial 52 rfl, rfl⟩, z_iconst_1⟩
theorem dX12_isDial_97 : vm_at cX12_isDial 97 (.putfield 133) 3 100 := ⟨vm_row tbX12_isDial 53 rfl, rfl⟩
theorem dX12_isDial_100 : vm_at cX12_isDial 100 (.iconst 0) 1 101 ∧ Int32.ofInt (0) = (0 : Int32) := ⟨⟨vm_row tbX12_isDial 54 rfl, rfl⟩, z_iconst_0⟩
theorem dX12_isDial_101 : vm_at cX12_isDial 101 (.istore_n 1) 1 102 ∧ ((1 : Fin 4) : Nat) = 1 := ⟨⟨vm_row tbX12_isDial 55 rfl, rfl⟩, rfl⟩
theorem dX12_isDial_102 : vm_at cX12_isDial 102 (.iload_n 1) 1 103 ∧ ((1 : Fin 4) : Nat) = 1 := ⟨⟨vm_row tbX12_isDial 56 rfl, rfl⟩, rfl⟩
theorem dX12_isDial_103 : vm_at cX12_isDial 103 (.aload_n 0) 1 104 ∧ ((0 : Fin 4) : Nat) = 0 := ⟨⟨vm_row tbX12_isDial 57 rfl, rfl⟩, rfl⟩
theorem dX12_isDial_104 : vm_at cX12_isDial 104 (.getfield 130) 3 107 := ⟨vm_row tbX12_isDial 58 rfl, rfl⟩
theorem dX12_isDial_107 : vm_br cX12_isDial 107 (.if_icmp .ge 42) 3 110 (42) 149 := ⟨vm_row tbX12_isDial 59 rfl, rfl, rfl⟩
theorem dX12_isDial_110 : vm_at cX12_isDial 110 (.aload_n 0) 1 111 ∧ ((0 : Fin 4) : Nat) = 0 := ⟨⟨vm_row tbX12_isDial 60 rfl, rfl⟩, rfl⟩
theorem dX12_isDial_111 : vm_at cX12_isDial 111 (.aload_n 0) 1 112 ∧ ((0 : Fin 4) : Nat) = 0 := ⟨⟨vm_row tbX12_isDial 61 rfl, rfl⟩, rfl⟩
theorem dX12_isDial_112 : vm_at cX12_isDial 112 (.getfield 133) 3 115 := ⟨vm_row tbX12_isDial 62 rfl, rfl⟩
theorem dX12_isDial_115 : vm_at cX12_isDial 115 (.aload_n 0) 1 116 ∧ ((0 : Fin 4) : Nat) = 0 := ⟨⟨vm_row tbX12_isDial 63 rfl, rfl⟩, rfl⟩
theorem dX12_isDial_116 : vm_at cX12_isDial 116 (.getfield 127) 3 119 := ⟨vm_row tbX12_isDial 64 rfl, rfl⟩
theorem dX12_isDial_119 : vm_at cX12_isDial 119 (.imul) 1 120 := ⟨vm_row tbX12_isDial 65 rfl, rfl⟩
theorem dX12_isDial_120 : vm_at cX12_isDial 120 (.bipush 100) 2 122 ∧ (Int8.ofInt (100)).toInt32 = (100 : Int32) := ⟨⟨vm_row tbX12_isDial 66 rfl, rfl⟩, z_bipush_100⟩
theorem dX12_isDial_122 : vm_br cX12_isDial 122 (.if_icmp .le 9) 3 125 (9) 131 := ⟨vm_row tbX12_isDial 67 rfl, rfl, rfl⟩
theorem dX12_isDial_125 : vm_at cX12_isDial 125 (.sipush 1000) 3 128 ∧ (Int16.ofInt (1000)).toInt32 = (1000 : Int32) := ⟨⟨vm_row tbX12_isDial 68 rfl, rfl⟩, z_sipush_1000⟩
theorem dX12_isDial_128 : vm_br cX12_isDial 128 (.goto 12) 3 131 (12) 140 := ⟨vm_row tbX12_isDial 69 rfl, rfl, rfl⟩
theorem dX12_isDial_131 : vm_at cX12_isDial 131 (.aload_n 0) 1 132 ∧ ((0 : Fin 4) : Nat) = 0 := ⟨⟨vm_row tbX12_isDial 70 rfl, rfl⟩, rfl⟩
theorem dX12_isDial_132 : vm_at cX12_isDial 132 (.getfield 133) 3 135 := ⟨vm_row tbX12_isDial 71 rfl, rfl⟩
theorem dX12_isDial_135 : vm_at cX12_isDial 135 (.aload_n 0) 1 136 ∧ ((0 : Fin 4) : Nat) = 0 := ⟨⟨vm_row tbX12_isDial 72 rfl, rfl⟩, rfl⟩
theorem dX12_isDial_136 : vm_at cX12_isDial 136 (.getfield 127) 3 139 := ⟨vm_row tbX12_isDial 73 rfl, rfl⟩
theorem dX12_isDial_139 : vm_at cX12_isDial 139 (.imul) 1 140 := ⟨vm_row tbX12_isDial 74 rfl, rfl⟩
theorem dX12_isDial_140 : vm_at cX12_isDial 140 (.putfield 133) 3 143 := ⟨vm_row tbX12_isDial 75 rfl, rfl⟩
theorem dX12_isDial_143 : vm_at cX12_isDial 143 (.iinc 1 1) 3 146 ∧ Int32.ofInt (1) = (1 : Int32) := ⟨⟨vm_row tbX12_isDial 76 rfl, rfl⟩, z_iconst_1⟩
theorem dX12_isDial_146 : vm_br cX12_isDial 146 (.goto (-44)) 3 149 (-44) 102 := ⟨vm_row tbX12_isDial 77 rfl, rfl, rfl⟩
theorem dX12_isDial_149 : vm_at cX12_isDial 149 (.aload_n 0) 1 150 ∧ ((0 : Fin 4) : Nat) = 0 := ⟨⟨vm_row tbX12_isDial 78 rfl, rfl⟩, rfl⟩
theorem dX12_isDial_150 : vm_at cX12_isDial 150 (.getfield 133) 3 153 := ⟨vm_row tbX12_isDial 79 rfl, rfl⟩
theorem dX12_isDial_153 : vm_at cX12_isDial 153 (.bipush 100) 2 155 ∧ (Int8.ofInt (100)).toInt32 = (100 : Int32) := ⟨⟨vm_row tbX12_isDial 80 rfl, rfl⟩, z_bipush_100⟩
theorem dX12_isDial_155 : vm_br cX12_isDial 155 (.if_icmp .le 11) 3 158 (11) 166 := ⟨vm_row tbX12_isDial 81 rfl, rfl, rfl⟩
theorem dX12_isDial_158 : vm_at cX12_isDial 158 (.aload_n 0) 1 159 ∧ ((0 : Fin 4) : Nat) = 0 := ⟨⟨vm_row tbX12_isDial 82 rfl, rfl⟩, rfl⟩
theorem dX12_isDial_159 : vm_at cX12_isDial 159 (.iconst 2) 1 160 ∧ Int32.ofInt (2) = (2 : Int32) := ⟨⟨vm_row tbX12_isDial 83 rfl, rfl⟩, z_iconst_2⟩
theorem dX12_isDial_160 : vm_at cX12_isDial 160 (.invokevirtual 113) 3 163 := ⟨vm_row tbX12_isDial 84 rfl, rfl⟩
theorem dX12_isDial_163 : vm_br cX12_isDial 163 (.goto 7) 3 166 (7) 170 := ⟨vm_row tbX12_isDial 85 rfl, rfl, rfl⟩
theorem dX12_isDial_166 : vm_at cX12_isDial 166 (.aload_n 0) 1 167 ∧ ((0 : Fin 4) : Nat) = 0 := ⟨⟨vm_row tbX12_isDial 86 rfl, rfl⟩, rfl⟩
theorem dX12_isDial_167 : vm_at cX12_isDial 167 (.invokevirtual 136) 3 170 := ⟨vm_row tbX12_isDial 87 rfl, rfl⟩
theorem dX12_isDial_170 : vm_at cX12_isDial 170 (.ireturn) 1 171 := ⟨vm_row tbX12_isDial 88 rfl, rfl⟩
def tlX12_isCost : List (Nat × Instr × Nat) := [(0, .aload_n 0, 1), (1, .iload_n 1, 1), (2, .iconst 1, 1), (3, .iadd, 1), (4, .iconst 1, 1), (5, .bipush 99, 2), (7, .invokevirtual 124, 3), (10, .ifCond .eq 14, 3), (13, .aload_n 0, 1), (14, .invokevirtual 136, 3), (17, .ifCond .eq 7, 3), (20, .iconst 1, 1), (21, .goto 4, 3), (24, .iconst 0, 1), (25, .ireturn, 1)]
theorem tbX12_isCost : vm_chk cX12_isCost tlX12_isCost = true := by decide +kernel
theorem dX12_isCost_0 : vm_at cX12_isCost 0 (.aload_n 0) 1 1 ∧ ((0 : Fin 4) : Nat) = 0 := ⟨⟨vm_row tbX12_isCost 0 rfl, rfl⟩, rfl⟩
theorem dX12_isCost_1 : vm_at cX12_isCost 1 (.iload_n 1) 1 2 ∧ ((1 : Fin 4) : Nat) = 1 := ⟨⟨vm_row tbX12_isCost 1 rfl, rfl⟩, rfl⟩
theorem dX12_isCost_2 : vm_at cX12_isCost 2 (.iconst 1) 1 3 ∧ Int32.ofInt (1) = (1 : Int32) := ⟨⟨vm_row tbX12_isCost 2 rfl, rfl⟩, z_iconst_1⟩
theorem dX12_isCost_3 : vm_at cX12_isCost 3 (.iadd) 1 4 := ⟨vm_row tbX12_isCost 3 rfl, rfl⟩
theorem dX12_isCost_4 : vm_at cX12_isCost 4 (.iconst 1) 1 5 ∧ Int32.ofInt (1) = (1 : Int32) := ⟨⟨vm_row tbX12_isCost 4 rfl, rfl⟩, z_iconst_1⟩
theorem dX12_isCost_5 : vm_at cX12_isCost 5 (.bipush 99) 2 7 ∧ (Int8.ofInt (99)).toInt32 = (99 : Int32) := ⟨⟨vm_row tbX12_isCost 5 rfl, rfl⟩, z_bipush_99⟩
theorem dX12_isCost_7 : vm_at cX12_isCost 7 (.invokevirtual 124) 3 10 := ⟨vm_row tbX12_isCost 6 rfl, rfl⟩
theorem dX12_isCost_10 : vm_br cX12_isCost 10 (.ifCond .eq 14) 3 13 (14) 24 := ⟨vm_row tbX12_isCost 7 rfl, rfl, rfl⟩
theorem dX12_isCost_13 : vm_at cX12_isCost 13 (.aload_n 0) 1 14 ∧ ((0 : Fin 4) : Nat) = 0 := ⟨⟨vm_row tbX12_isCost 8 rfl, rfl⟩, rfl⟩
theorem dX12_isCost_14 : vm_at cX12_isCost 14 (.invokevirtual 136) 3 17 := ⟨vm_row tbX12_isCost 9 rfl, rfl⟩
theorem dX12_isCost_17 : vm_br cX12_isCost 17 (.ifCond .eq 7) 3 20 (7) 24 := ⟨vm_row tbX12_isCost 10 rfl, rfl, rfl⟩
theorem dX12_isCost_20 : vm_at cX12_isCost 20 (.iconst 1) 1 21 ∧ Int32.ofInt (1) = (1 : Int32) := ⟨⟨vm_row tbX12_isCost 11 rfl, rfl⟩, z_iconst_1⟩
theorem dX12_isCost_21 : vm_br cX12_isCost 21 (.goto 4) 3 24 (4) 25 := ⟨vm_row tbX12_isCost 12 rfl, rfl, rfl⟩
theorem dX12_isCost_24 : vm_at cX12_isCost 24 (.iconst 0) 1 25 ∧ Int32.ofInt (0) = (0 : Int32) := ⟨⟨vm_row tbX12_isCost 13 rfl, rfl⟩, z_iconst_0⟩
theorem dX12_isCost_25 : vm_at cX12_isCost 25 (.ireturn) 1 26 := ⟨vm_row tbX12_isCost 14 rfl, rfl⟩
def tlX12_isNow : List (Nat × Instr × Nat) := [(0, .aload_n 0, 1), (1, .invokevirtual 110, 3), (4, .aload_n 0, 1), (5, .getfield 23, 3), (8, .iload_n 1, 1), (9, .iconst 3, 1), (10, .iadd, 1), (11, .aload_n 0, 1), (12, .getfield 93, 3), (15, .ldc2_w 140, 3), (18, .lcmp, 1), (19, .ifCond .ne 7, 3), (22, .iconst 1, 1), (23, .goto 34, 3), (26, .aload_n 0, 1), (27, .getfield 93, 3), (30, .ldc2_w 142, 3), (33, .lcmp, 1), (34, .ifCond .ne 7, 3), (37, .iconst 2, 1), (38, .goto 19, 3), (41, .aload_n 0, 1), (42, .getfield 93, 3), (45, .ldc2_w 144, 3), (48, .lcmp, 1), (49, .ifCond .ne 7, 3), (52, .iconst 3, 1), (53, .goto 4, 3), (56, .iconst (-1), 1), (57, .iastore, 1), (58, .aload_n 0, 1), (59, .getfield 23, 3), (62, .iload_n 1, 1), (63, .iconst 3, 1), (64, .iadd, 1), (65, .iaload, 1), (66, .iconst (-1), 1), (67, .if_icmp .ne 9, 3), (70, .aload_n 0, 1), (71, .iconst 1, 1), (72, .invokevirtual 113, 3), (75, .ireturn, 1), (76, .aload_n 0, 1), (77, .iload_n 1, 1), (78, .iconst 2, 1), (79, .iadd, 1), (80, .iconst 0, 1), (81, .aload_n 0, 1), (82, .getfield 133, 3), (85, .iconst 1, 1), (86, .isub, 1), (87, .invokevirtual 124, 3), (90, .ifCond .eq 15, 3), (93, .aload_n 0, 1), (94, .iload_n 1, 1), (95, .invokevirtual 146, 3), (98, .ifCond .eq 7, 3), (101, .iconst 1, 1), (102, .goto 4, 3), (105, .iconst 0, 1), (106, .ireturn, 1)]
theorem tbX12_isNow : vm_chk cX12_isNow tlX12_isNow = true := by decide +kernel
theorem dX12_isNow_0 : vm_at cX12_isNow 0 (.aload_n 0) 1 1 ∧ ((0 : Fin 4) : Nat) = 0 := ⟨⟨vm_row tbX12_isNow 0 rfl, rfl⟩, rfl⟩
theorem dX12_isNow_1 : vm_at cX12_isNow 1 (.invokevirtual 110) 3 4 := ⟨vm_row tbX12_isNow 1 rfl, rfl⟩
theorem dX12_isNow_4 : vm_at cX12_isNow 4 (.aload_n 0) 1 5 ∧ ((0 : Fin 4) : Nat) = 0 := ⟨⟨vm_row tbX12_isNow 2 rfl, rfl⟩, rfl⟩
theorem dX12_isNow_5 : vm_at cX12_isNow 5 (.getfield 23) 3 8 := ⟨vm_row tbX12_isNow 3 rfl, rfl⟩
theorem dX12_isNow_8 : vm_at cX12_isNow 8 (.iload_n 1) 1 9 ∧ ((1 : Fin 4) : Nat) = 1 := ⟨⟨vm_row tbX12_isNow 4 rfl, rfl⟩, rfl⟩
theorem dX12_isNow_9 : vm_at cX12_isNow 9 (.iconst 3) 1 10 ∧ Int32.ofInt (3) = (3 : Int32) := ⟨⟨vm_row tbX12_isNow 5 rfl, rfl⟩, z_iconst_3⟩
theorem dX12_isNow_10 : vm_at cX12_isNow 10 (.iadd) 1 11 := ⟨vm_row tbX12_isNow 6 rfl, rfl⟩
theorem dX12_isNow_11 : vm_at cX12_isNow 11 (.aload_n 0) 1 12 ∧ ((0 : Fin 4) : Nat) = 0 := ⟨⟨vm_row tbX12_isNow 7 rfl, rfl⟩, rfl⟩
theorem dX12_isNow_12 : vm_at cX12_isNow 12 (.getfield 93) 3 15 := ⟨vm_row tbX12_isNow 8 rfl, rfl⟩
theorem dX12_isNow_15 : vm_at cX12_isNow 15 (.ldc2_w 140) 3 18 := ⟨vm_row tbX12_isNow 9 rfl, rfl⟩
theorem dX12_isNow_18 : vm_at cX12_isNow 18 (.lcmp) 1 19 := ⟨vm_row tbX12_isNow 10 rfl, rfl⟩
theorem dX12_isNow_19 : vm_br cX12_isNow 19 (.ifCond .ne 7) 3 22 (7) 26 := ⟨vm_row tbX12_isNow 11 rfl, rfl, rfl⟩
theorem dX12_isNow_22 : vm_at cX12_isNow 22 (.iconst 1) 1 23 ∧ Int32.ofInt (1) = (1 : Int32) := ⟨⟨vm_row tbX12_isNow 12 rfl, rfl⟩, z_iconst_1⟩
theorem dX12_isNow_23 : vm_br cX12_isNow 23 (.goto 34) 3 26 (34) 57 := ⟨vm_row tbX12_isNow 13 rfl, rfl, rfl⟩
theorem dX12_isNow_26 : vm_at cX12_isNow 26 (.aload_n 0) 1 27 ∧ ((0 : Fin 4) : Nat) = 0 := ⟨⟨vm_row tbX12_isNow 14 rfl, rfl⟩, rfl⟩
theorem dX12_isNow_27 : vm_at cX12_isNow 27 (.getfield 93) 3 30 := ⟨vm_row tbX12_isNow 15 rfl, rfl⟩
theorem dX12_isNow_30 : vm_at cX12_isNow 30 (.ldc2_w 142) 3 33 := ⟨vm_row tbX12_isNow 16 rfl, rfl⟩
theorem dX12_isNow_33 : vm_at cX12_isNow 33 (.lcmp) 1 34 := ⟨vm_row tbX12_isNow 17 rfl, rfl⟩
theorem dX12_isNow_34 : vm_br cX12_isNow 34 (.ifCond .ne 7) 3 37 (7) 41 := ⟨vm_row tbX12_isNow 18 rfl, rfl, rfl⟩
theorem dX12_isNow_37 : vm_at cX12_isNow 37 (.iconst 2) 1 38 ∧ Int32.ofInt (2) = (2 : Int32) := ⟨⟨vm_row tbX12_isNow 19 rfl, rfl⟩, z_iconst_2⟩
theorem dX12_isNow_38 : vm_br cX12_isNow 38 (.goto 19) 3 41 (19) 57 := ⟨vm_row tbX12_isNow 20 rfl, rfl, rfl⟩
theorem dX12_isNow_41 : vm_at cX12_isNow 41 (.aload_n 0) 1 42 ∧ ((0 : Fin 4) : Nat) = 0 := ⟨⟨vm_row tbX12_isNow 21 rfl, rfl⟩, rfl⟩
theorem dX12_isNow_42 : vm_at cX12_isNow 42 (.getfield 93) 3 45 := ⟨vm_row tbX12_isNow 22 rfl, rfl⟩
theorem dX12_isNow_45 : vm_at cX12_isNow 45 (.ldc2_w 144) 3 48 := ⟨vm_row tbX12_isNow 23 rfl, rfl⟩
theorem dX12_isNow_48 : vm_at cX12_isNow 48 (.lcmp) 1 49 := ⟨vm_row tbX12_isNow 24 rfl, rfl⟩
theorem dX12_isNow_49 : vm_br cX12_isNow 49 (.ifCond .ne 7) 3 52 (7) 56 := ⟨vm_row tbX12_isNow 25 rfl, rfl, rfl⟩
theorem dX12_isNow_52 : vm_at cX12_isNow 52 (.iconst 3) 1 53 ∧ Int32.ofInt (3) = (3 : Int32) := ⟨⟨vm_row tbX12_isNow 26 rfl, rfl⟩, z_iconst_3⟩
theorem dX12_isNow_53 : vm_br cX12_isNow 53 (.goto 4) 3 56 (4) 57 := ⟨vm_row tbX12_isNow 27 rfl, rfl, rfl⟩
theorem dX12_isNow_56 : vm_at cX12_isNow 56 (.iconst (-1)) 1 57 ∧ Int32.ofInt (-1) = (-1 : Int32) := ⟨⟨vm_row tbX12_isNow 28 rfl, rfl⟩, z_iconst_m1⟩
theorem dX12_isNow_57 : vm_at cX12_isNow 57 (.iastore) 1 58 := ⟨vm_row tbX12_isNow 29 rfl, rfl⟩
theorem dX12_isNow_58 : vm_at cX12_isNow 58 (.aload_n 0) 1 59 ∧ ((0 : Fin 4) : Nat) = 0 := ⟨⟨vm_row tbX12_isNow 30 rfl, rfl⟩, rfl⟩
theorem dX12_isNow_59 : vm_at cX12_isNow 59 (.getfield 23) 3 62 := ⟨vm_row tbX12_isNow 31 rfl, rfl⟩
theorem dX12_isNow_62 : vm_at cX12_isNow 62 (.iload_n 1) 1 63 ∧ ((1 : Fin 4) : Nat) = 1 := ⟨⟨vm_row tbX12_isNow 32 rfl, rfl⟩, rfl⟩
theorem dX12_isNow_63 : vm_at cX12_isNow 63 (.iconst 3) 1 64 ∧ Int32.ofInt (3) = (3 : Int32) := ⟨⟨vm_row tbX12_isNow 33 rfl, rfl⟩, z_iconst_3⟩
theorem dX12_isNow_64 : vm_at cX12_isNow 64 (.iadd) 1 65 := ⟨vm_row tbX12_isNow 34 rfl, rfl⟩
theorem dX12_isNow_65 : vm_at cX12_isNow 65 (.iaload) 1 66 := ⟨vm_row tbX12_isNow 35 rfl, rfl⟩
theorem dX12_isNow_66 : vm_at cX12_isNow 66 (.iconst (-1)) 1 67 ∧ Int32.ofInt (-1) = (-1 : Int32) := ⟨⟨vm_row tbX12_isNow 36 rfl, rfl⟩, z_iconst_m1⟩
theorem dX12_isNow_67 : vm_br cX12_isNow 67 (.if_icmp .ne 9) 3 70 (9) 76 := ⟨vm_row tbX12_isNow 37 rfl, rfl, rfl⟩
theorem dX12_isNow_70 : vm_at cX12_isNow 70 (.aload_n 0) 1 71 ∧ ((0 : Fin 4) : Nat) = 0 := ⟨⟨vm_row tbX12_isNow 38 rfl, rfl⟩, rfl⟩
theorem dX12_isNow_71 : vm_at cX12_isNow 71 (.iconst 1) 1 72 ∧ Int32.ofInt (1) = (1 : Int32) := ⟨⟨vm_row tbX12_isNow 39 rfl, rfl⟩, z_iconst_1⟩
theorem dX12_isNow_72 : vm_at cX12_isNow 72 (.invokevirtual 113) 3 75 := ⟨vm_row tbX12_isNow 40 rfl, rfl⟩
theorem dX12_isNow_75 : vm_at cX12_isNow 75 (.ireturn) 1 76 := ⟨vm_row tbX12_isNow 41 rfl, rfl⟩
theorem dX12_isNow_76 : vm_at cX12_isNow 76 (.aload_n 0) 1 77 ∧ ((0 : Fin 4) : Nat) = 0 := ⟨⟨vm_row tbX12_isNow 42 rfl, rfl⟩, rfl⟩
theorem dX12_isNow_77 : vm_at cX12_isNow 77 (.iload_n 1) 1 78 ∧ ((1 : Fin 4) : Nat) = 1 := ⟨⟨vm_row tbX12_isNow 43 rfl, rfl⟩, rfl⟩
theorem dX12_isNow_78 : vm_at cX12_isNow 78 (.iconst 2) 1 79 ∧ Int32.ofInt (2) = (2 : Int32) := ⟨⟨vm_row tbX12_isNow 44 rfl, rfl⟩, z_iconst_2⟩
theorem dX12_isNow_79 : vm_at cX12_isNow 79 (.iadd) 1 80 := ⟨vm_row tbX12_isNow 45 rfl, rfl⟩
theorem dX12_isNow_80 : vm_at cX12_isNow 80 (.iconst 0) 1 81 ∧ Int32.ofInt (0) = (0 : Int32) := ⟨⟨vm_row tbX12_isNow 46 rfl, rfl⟩, z_iconst_0⟩
theorem dX12_isNow_81 : vm_at cX12_isNow 81 (.aload_n 0) 1 82 ∧ ((0 : Fin 4) : Nat) = 0 := ⟨⟨vm_row tbX12_isNow 47 rfl, rfl⟩, rfl⟩
theorem dX12_isNow_82 : vm_at cX12_isNow 82 (.getfield 133) 3 85 := ⟨vm_row tbX12_isNow 48 rfl, rfl⟩
theorem dX12_isNow_85 : vm_at cX12_isNow 85 (.iconst 1) 1 86 ∧ Int32.ofInt (1) = (1 : Int32) := ⟨⟨vm_row tbX12_isNow 49 rfl, rfl⟩, z_iconst_1⟩
theorem dX12_isNow_86 : vm_at cX12_isNow 86 (.isub) 1 87 := ⟨vm_row tbX12_isNow 50 rfl, rfl⟩
theorem dX12_isNow_87 : vm_at cX12_isNow 87 (.invokevirtual 124) 3 90 := ⟨vm_row tbX12_isNow 51 rfl, rfl⟩
theorem dX12_isNow_90 : vm_br cX12_isNow 90 (.ifCond .eq 15) 3 93 (15) 105 := ⟨vm_row tbX12_isNow 52 rfl, rfl, rfl⟩
theorem dX12_isNow_93 : vm_at cX12_isNow 93 (.aload_n 0) 1 94 ∧ ((0 : Fin 4) : Nat) = 0 := ⟨⟨vm_row tbX12_isNow 53 rfl, rfl⟩, rfl⟩
theorem dX12_isNow_94 : vm_at cX12_isNow 94 (.iload_n 1) 1 95 ∧ ((1 : Fin 4) : Nat) = 1 := ⟨⟨vm_row tbX12_isNow 54 rfl, rfl⟩, rfl⟩
theorem dX12_isNow_95 : vm_at cX12_isNow 95 (.invokevirtual 146) 3 98 := ⟨vm_row tbX12_isNow 55 rfl, rfl⟩
theorem dX12_isNow_98 : vm_br cX12_isNow 98 (.ifCond .eq 7) 3 101 (7) 105 := ⟨vm_row tbX12_isNow 56 rfl, rfl, rfl⟩
theorem dX12_isNow_101 : vm_at cX12_isNow 101 (.iconst 1) 1 102 ∧ Int32.ofInt (1) = (1 : Int32) := ⟨⟨vm_row tbX12_isNow 57 rfl, rfl⟩, z_iconst_1⟩
theorem dX12_isNow_102 : vm_br cX12_isNow 102 (.goto 4) 3 105 (4) 106 := ⟨vm_row tbX12_isNow 58 rfl, rfl, rfl⟩
theorem dX12_isNow_105 : vm_at cX12_isNow 105 (.iconst 0) 1 106 ∧ Int32.ofInt (0) = (0 : Int32) := ⟨⟨vm_row tbX12_isNow 59 rfl, rfl⟩, z_iconst_0⟩
theorem dX12_isNow_106 : vm_at cX12_isNow 106 (.ireturn) 1 107 := ⟨vm_row tbX12_isNow 60 rfl, rfl⟩
def tlX12_isKey : List (Nat × Instr × Nat) := [(0, .aload_n 0, 1), (1, .getfield 93, 3), (4, .ldc2_w 149, 3), (7, .lcmp, 1), (8, .ifCond .ne 7, 3), (11, .iconst 0, 1), (12, .goto 64, 3), (15, .aload_n 0, 1), (16, .getfield 93, 3), (19, .ldc2_w 140, 3), (22, .lcmp, 1), (23, .ifCond .ne 7, 3), (26, .iconst 1, 1), (27, .goto 49, 3), (30, .aload_n 0, 1), (31, .getfield 93, 3), (34, .ldc2_w 142, 3), (37, .lcmp, 1), (38, .ifCond .ne 7, 3), (41, .iconst 2, 1), (42, .goto 34, 3), (45, .aload_n 0, 1), (46, .getfield 93, 3), (49, .ldc2_w 144, 3), (52, .lcmp, 1), (53, .ifCond .ne 7, 3), (56, .iconst 3, 1), (57, .goto 19, 3), (60, .aload_n 0, 1), (61, .getfield 93, 3), (64, .ldc2_w 151, 3), (67, .lcmp, 1), (68, .ifCond .ne 7, 3), (71, .iconst 4, 1), (72, .goto 4, 3), (75, .iconst (-1), 1), (76, .istore_n 1, 1), (77, .aload_n 0, 1), (78, .getfield 93, 3), (81, .ldc2_w 153, 3), (84, .lcmp, 1), (85, .ifCond .ne 7, 3), (88, .iconst 5, 1), (89, .goto 36, 3), (92, .aload_n 0, 1), (93, .getfield 93, 3), (96, .ldc2_w 155, 3), (99, .lcmp, 1), (100, .ifCond .ne 8, 3), (103, .bipush 6, 2), (105, .goto 20, 3), (108, .aload_n 0, 1), (109, .getfield 93, 3), (112, .ldc2_w 157, 3), (115, .lcmp, 1), (116, .ifCond .ne 8, 3), (119, .bipush 7, 2), (121, .goto 4, 3), (124, .iload_n 1, 1), (125, .istore_n 1, 1), (126, .aload_n 0, 1), (127, .getfield 93, 3), (130, .ldc2_w 159, 3), (133, .lcmp, 1), (134, .ifCond .ne 9, 3), (137, .aload_n 0, 1), (138, .iconst 3, 1), (139, .invokevirtual 113, 3), (142, .ireturn, 1), (143, .iload_n 1, 1), (144, .iconst (-1), 1), (145, .if_icmp .ne 9, 3), (148, .aload_n 0, 1), (149, .iconst 1, 1), (150, .invokevirtual 113, 3), (153, .ireturn, 1), (154, .aload_n 0, 1), (155, .getfield 161, 3), (158, .bipush 8, 2), (160, .if_icmp .ne 9, 3), (163, .aload_n 0, 1), (164, .iconst 3, 1), (165, .invokevirtual 113, 3), (168, .ireturn, 1), (169, .iconst 4, 1), (170, .aload_n 0, 1), (171, .getfield 161, 3), (174, .imul, 1), (175, .istore_n 2, 1), (176, .aload_n 0, 1), (177, .dup, 1), (178, .getfield 161, 3), (181, .iconst 1, 1), (182, .iadd, 1), (183, .putfield 161, 3), (186, .aload_n 0, 1), (187, .getfield 23, 3), (190, .iload_n 2, 1), (191, .iload_n 1, 1), (192, .iastore, 1), (193, .aload_n 0, 1), (194, .getfield 23, 3), (197, .iload_n 2, 1), (198, .iconst 2, 1), (199, .iadd, 1), (200, .iconst (-1), 1), (201, .iastore, 1), (202, .aload_n 0, 1), (203, .getfield 23, 3), (206, .iload_n 2, 1), (207, .iconst 3, 1), (208, .iadd, 1), (209, .iconst (-1), 1), (210, .iastore, 1), (211, .iload_n 1, 1), (212, .bipush 6, 2), (214, .if_icmp .ne 9, 3), (217, .aload_n 0, 1), (218, .iload_n 2, 1), (219, .invokevirtual 164, 3), (222, .ireturn, 1), (223, .iload_n 1, 1), (224, .ifCond .eq 9, 3), (227, .iload_n 1, 1), (228, .bipush 7, 2), (230, .if_icmp .ne 20, 3), (233, .aload_n 0, 1), (234, .iload_n 2, 1), (235, .iconst 2, 1), (236, .iadd, 1), (237, .iconst 0, 1), (238, .aload_n 0, 1), (239, .getfield 127, 3), (242, .iconst 1, 1), (243, .isub, 1), (244, .invokevirtual 124, 3), (247, .ifCond .eq 7, 3), (250, .iconst 1, 1), (251, .goto 4, 3), (254, .iconst 0, 1), (255, .istore_n 3, 1), (256, .iload_n 3, 1), (257, .ifCond .eq 30, 3), (260, .iload_n 1, 1), (261, .bipush 7, 2), (263, .if_icmp .ne 20, 3), (266, .aload_n 0, 1), (267, .iload_n 2, 1), (268, .iconst 3, 1), (269, .iadd, 1), (270, .iconst 0, 1), (271, .aload_n 0, 1), (272, .getfield 127, 3), (275, .iconst 1, 1), (276, .isub, 1), (277, .invokevirtual 124, 3), (280, .ifCond .eq 7, 3), (283, .iconst 1, 1), (284, .goto 4, 3), (287, .iconst 0, 1), (288, .istore_n 3, 1), (289, .iload_n 3, 1), (290, .ifCond .eq 15, 3), (293, .aload_n 0, 1), (294, .iload_n 2, 1), (295, .invokevirtual 146, 3), (298, .ifCond .eq 7, 3), (301, .iconst 1, 1), (302, .goto 4, 3), (305, .iconst 0, 1), (306, .ireturn, 1)]
theorem tbX12_isKey : vm_chk cX12_isKey tlX12_isKey = true := by decide +kernel
theorem dX12_isKey_0 : vm_at cX12_isKey 0 (.aload_n 0) 1 1 ∧ ((0 : Fin 4) : Nat) = 0 := ⟨⟨vm_row tbX12_isKey 0 rfl, rfl⟩, rfl⟩
theorem dX12_isKey_1 : vm_at cX12_isKey 1 (.getfield 93) 3 4 := ⟨vm_row tbX12_isKey 1 rfl, rfl⟩
theorem dX12_isKey_4 : vm_at cX12_isKey 4 (.ldc2_w 149) 3 7 := ⟨vm_row tbX12_isKey 2 rfl, rfl⟩
theorem dX12_isKey_7 : vm_at cX12_isKey 7 (.lcmp) 1 8 := ⟨vm_row tbX12_isKey 3 rfl, rfl⟩
theorem dX12_isKey_8 : vm_br cX12_isKey 8 (.ifCond .ne 7) 3 11 (7) 15 := ⟨vm_row tbX12_isKey 4 rfl, rfl, rfl⟩
theorem dX12_isKey_11 : vm_at cX12_isKey 11 (.iconst 0) 1 12 ∧ Int32.ofInt (0) = (0 : Int32) := ⟨⟨vm_row tbX12_isKey 5 rfl, rfl⟩, z_iconst_0⟩
theorem dX12_isKey_12 : vm_br cX12_isKey 12 (.goto 64) 3 15 (64) 76 := ⟨vm_row tbX12_isKey 6 rfl, rfl, rfl⟩
theorem dX12_isKey_15 : vm_at cX12_isKey 15 (.aload_n 0) 1 16 ∧ ((0 : Fin 4) : Nat) = 0 := ⟨⟨vm_row tbX12_isKey 7 rfl, rfl⟩, rfl⟩
theorem dX12_isKey_16 : vm_at cX12_isKey 16 (.getfield 93) 3 19 := ⟨vm_row tbX12_isKey 8 rfl, rfl⟩
theorem dX12_isKey_19 : vm_at cX12_isKey 19 (.ldc2_w 140) 3 22 := ⟨vm_row tbX12_isKey 9 rfl, rfl⟩
theorem dX12_isKey_22 : vm_at cX12_isKey 22 (.lcmp) 1 23 := ⟨vm_row tbX12_isKey 10 rfl, rfl⟩
theorem dX12_isKey_23 : vm_br cX12_isKey 23 (.ifCond .ne 7) 3 26 (7) 30 := ⟨vm_row tbX12_isKey 11 rfl, rfl, rfl⟩
theorem dX12_isKey_26 : vm_at cX12_isKey 26 (.iconst 1) 1 27 ∧ Int32.ofInt (1) = (1 : Int32) := ⟨⟨vm_row tbX12_isKey 12 rfl, rfl⟩, z_iconst_1⟩
theorem dX12_isKey_27 : vm_br cX12_isKey 27 (.goto 49) 3 30 (49) 76 := ⟨vm_row tbX12_isKey 13 rfl, rfl, rfl⟩
theorem dX12_isKey_30 : vm_at cX12_isKey 30 (.aload_n 0) 1 31 ∧ ((0 : Fin 4) : Nat) = 0 := ⟨⟨vm_row tbX12_isKey 14 rfl, rfl⟩, rfl⟩
theorem dX12_isKey_31 : vm_at cX12_isKey 31 (.getfield 93) 3 34 := ⟨vm_row tbX12_isKey 15 rfl, rfl⟩
theorem dX12_isKey_34 : vm_at cX12_isKey 34 (.ldc2_w 142) 3 37 := ⟨vm_row tbX12_isKey 16 rfl, rfl⟩
theorem dX12_isKey_37 : vm_at cX12_isKey 37 (.lcmp) 1 38 := ⟨vm_row tbX12_isKey 17 rfl, rfl⟩
theorem dX12_isKey_38 : vm_br cX12_isKey 38 (.ifCond .ne 7) 3 41 (7) 45 := ⟨vm_row tbX12_isKey 18 rfl, rfl, rfl⟩
theorem dX12_isKey_41 : vm_at cX12_isKey 41 (.iconst 2) 1 42 ∧ Int32.ofInt (2) = (2 : Int32) := ⟨⟨vm_row tbX12_isKey 19 rfl, rfl⟩, z_iconst_2⟩
theorem dX12_isKey_42 : vm_br cX12_isKey 42 (.goto 34) 3 45 (34) 76 := ⟨vm_row tbX12_isKey 20 rfl, rfl, rfl⟩
theorem dX12_isKey_45 : vm_at cX12_isKey 45 (.aload_n 0) 1 46 ∧ ((0 : Fin 4) : Nat) = 0 := ⟨⟨vm_row tbX12_isKey 21 rfl, rfl⟩, rfl⟩
theorem dX12_isKey_46 : vm_at cX12_isKey 46 (.getfield 93) 3 49 := ⟨vm_row tbX12_isKey 22 rfl, rfl⟩
theorem dX12_isKey_49 : vm_at cX12_isKey 49 (.ldc2_w 144) 3 52 := ⟨vm_row tbX12_isKey 23 rfl, rfl⟩
theorem dX12_isKey_52 : vm_at cX12_isKey 52 (.lcmp) 1 53 := ⟨vm_row tbX12_isKey 24 rfl, rfl⟩
theorem dX12_isKey_53 : vm_br cX12_isKey 53 (.ifCond .ne 7) 3 56 (7) 60 := ⟨vm_row tbX12_isKey 25 rfl, rfl, rfl⟩
theorem dX12_isKey_56 : vm_at cX12_isKey 56 (.iconst 3) 1 57 ∧ Int32.ofInt (3) = (3 : Int32) := ⟨⟨vm_row tbX12_isKey 26 rfl, rfl⟩, z_iconst_3⟩
theorem dX12_isKey_57 : vm_br cX12_isKey 57 (.goto 19) 3 60 (19) 76 := ⟨vm_row tbX12_isKey 27 rfl, rfl, rfl⟩
theorem dX12_isKey_60 : vm_at cX12_isKey 60 (.aload_n 0) 1 61 ∧ ((0 : Fin 4) : Nat) = 0 := ⟨⟨vm_row tbX12_isKey 28 rfl, rfl⟩, rfl⟩
theorem dX12_isKey_61 : vm_at cX12_isKey 61 (.getfield 93) 3 64 := ⟨vm_row tbX12_isKey 29 rfl, rfl⟩
theorem dX12_isKey_64 : vm_at cX12_isKey 64 (.ldc2_w 151) 3 67 := ⟨vm_row tbX12_isKey 30 rfl, rfl⟩
theorem dX12_isKey_67 : vm_at cX12_isKey 67 (.lcmp) 1 68 := ⟨vm_row tbX12_isKey 31 rfl, rfl⟩
theorem dX12_isKey_68 : vm_br cX12_isKey 68 (.ifCond .ne 7) 3 71 (7) 75 := ⟨vm_row tbX12_isKey 32 rfl, rfl, rfl⟩
theorem dX12_isKey_71 : vm_at cX12_isKey 71 (.iconst 4) 1 72 ∧ Int32.ofInt (4) = (4 : Int32) := ⟨⟨vm_row tbX12_isKey 33 rfl, rfl⟩, z_iconst_4⟩
theorem dX12_isKey_72 : vm_br cX12_isKey 72 (.goto 4) 3 75 (4) 76 := ⟨vm_row tbX12_isKey 34 rfl, rfl, rfl⟩
theorem dX12_isKey_75 : vm_at cX12_isKey 75 (.iconst (-1)) 1 76 ∧ Int32.ofInt (-1) = (-1 : Int32) := ⟨⟨vm_row tbX12_isKey 35 rfl, rfl⟩, z_iconst_m1⟩
theorem dX12_isKey_76 : vm_at cX12_isKey 76 (.istore_n 1) 1 77 ∧ ((1 : Fin 4) : Nat) = 1 := ⟨⟨vm_row tbX12_isKey 36 rfl, rfl⟩, rfl⟩
theorem dX12_isKey_77 : vm_at cX12_isKey 77 (.aload_n 0) 1 78 ∧ ((0 : Fin 4) : Nat) = 0 := ⟨⟨vm_row tbX12_isKey 37 rfl, rfl⟩, rfl⟩
theorem dX12_isKey_78 : vm_at cX12_isKey 78 (.getfield 93) 3 81 := ⟨vm_row tbX12_isKey 38 rfl, rfl⟩
theorem dX12_isKey_81 : vm_at cX12_isKey 81 (.ldc2_w 153) 3 84 := ⟨vm_row tbX12_isKey 39 rfl, rfl⟩
theorem dX12_isKey_84 : vm_at cX12_isKey 84 (.lcmp) 1 85 := ⟨vm_row tbX12_isKey 40 rfl, rfl⟩
theorem dX12_isKey_85 : vm_br cX12_isKey 85 (.ifCond .ne 7) 3 88 (7) 92 := ⟨vm_row tbX12_isKey 41 rfl, rfl, rfl⟩
theorem dX12_isKey_88 : vm_at cX12_isKey 88 (.iconst 5) 1 89 ∧ Int32.ofInt (5) = (5 : Int32) := ⟨⟨vm_row tbX12_isKey 42 rfl, rfl⟩, z_iconst_5⟩
theorem dX12_isKey_89 : vm_br cX12_isKey 89 (.goto 36) 3 92 (36) 125 := ⟨vm_row tbX12_isKey 43 rfl, rfl, rfl⟩
theorem dX12_isKey_92 : vm_at cX12_isKey 92 (.aload_n 0) 1 93 ∧ ((0 : Fin 4) : Nat) = 0 := ⟨⟨vm_row tbX12_isKey 44 rfl, rfl⟩, rfl⟩
theorem dX12_isKey_93 : vm_at cX12_isKey 93 (.getfield 93) 3 96 := ⟨vm_row tbX12_isKey 45 rfl, rfl⟩
theorem dX12_isKey_96 : vm_at cX12_isKey 96 (.ldc2_w 155) 3 99 := ⟨vm_row tbX12_isKey 46 rfl, rfl⟩
theorem dX12_isKey_99 : vm_at cX12_isKey 99 (.lcmp) 1 100 := ⟨vm_row tbX12_isKey 47 rfl, rfl⟩
theorem dX12_isKey_100 : vm_br cX12_isKey 100 (.ifCond .ne 8) 3 103 (8) 108 := ⟨vm_row tbX12_isKey 48 rfl, rfl, rfl⟩
theorem dX12_isKey_103 : vm_at cX12_isKey 103 (.bipush 6) 2 105 ∧ (Int8.ofInt (6)).toInt32 = (6 : Int32) := ⟨⟨vm_row tbX12_isKey 49 rfl, rfl⟩, z_bipush_6⟩
theorem dX12_isKey_105 : vm_br cX12_isKey 105 (.goto 20) 3 108 (20) 125 := ⟨vm_row tbX12_isKey 50 rfl, rfl, rfl⟩
theorem dX12_isKey_108 : vm_at cX12_isKey 108 (.aload_n 0) 1 109 ∧ ((0 : Fin 4) : Nat) = 0 := ⟨⟨vm_row tbX12_isKey 51 rfl, rfl⟩, rfl⟩
theorem dX12_isKey_109 : vm_at cX12_isKey 109 (.getfield 93) 3 112 := ⟨vm_row tbX12_isKey 52 rfl, rfl⟩
theorem dX12_isKey_112 : vm_at cX12_isKey 112 (.ldc2_w 157) 3 115 := ⟨vm_row tbX12_isKey 53 rfl, rfl⟩
theorem dX12_isKey_115 : vm_at cX12_isKey 115 (.lcmp) 1 116 := ⟨vm_row tbX12_isKey 54 rfl, rfl⟩
theorem dX12_isKey_116 : vm_br cX12_isKey 116 (.ifCond .ne 8) 3 119 (8) 124 := ⟨vm_row tbX12_isKey 55 rfl, rfl, rfl⟩
theorem dX12_isKey_119 : vm_at cX12_isKey 119 (.bipush 7) 2 121 ∧ (Int8.ofInt (7)).toInt32 = (7 : Int32) := ⟨⟨vm_row tbX12_isKey 56 rfl, rfl⟩, z_bipush_7⟩
theorem dX12_isKey_121 : vm_br cX12_isKey 121 (.goto 4) 3 124 (4) 125 := ⟨vm_row tbX12_isKey 57 rfl, rfl, rfl⟩
theorem dX12_isKey_124 : vm_at cX12_isKey 124 (.iload_n 1) 1 125 ∧ ((1 : Fin 4) : Nat) = 1 := ⟨⟨vm_row tbX12_isKey 58 rfl, rfl⟩, rfl⟩
theorem dX12_isKey_125 : vm_at cX12_isKey 125 (.istore_n 1) 1 126 ∧ ((1 : Fin 4) : Nat) = 1 := ⟨⟨vm_row tbX12_isKey 59 rfl, rfl⟩, rfl⟩
theorem dX12_isKey_126 : vm_at cX12_isKey 126 (.aload_n 0) 1 127 ∧ ((0 : Fin 4) : Nat) = 0 := ⟨⟨vm_row tbX12_isKey 60 rfl, rfl⟩, rfl⟩
theorem dX12_isKey_127 : vm_at cX12_isKey 127 (.getfield 93) 3 130 := ⟨vm_row tbX12_isKey 61 rfl, rfl⟩
theorem dX12_isKey_130 : vm_at cX12_isKey 130 (.ldc2_w 159) 3 133 := ⟨vm_row tbX12_isKey 62 rfl, rfl⟩
theorem dX12_isKey_133 : vm_at cX12_isKey 133 (.lcmp) 1 134 := ⟨vm_row tbX12_isKey 63 rfl, rfl⟩
theorem dX12_isKey_134 : vm_br cX12_isKey 134 (.ifCond .ne 9) 3 137 (9) 143 := ⟨vm_row tbX12_isKey 64 rfl, rfl, rfl⟩
theorem dX12_isKey_137 : vm_at cX12_isKey 137 (.aload_n 0) 1 138 ∧ ((0 : Fin 4) : Nat) = 0 := ⟨⟨vm_row tbX12_isKey 65 rfl, rfl⟩, rfl⟩
theorem dX12_isKey_138 : vm_at cX12_isKey 138 (.iconst 3) 1 139 ∧ Int32.ofInt (3) = (3 : Int32) := ⟨⟨vm_row tbX12_isKey 66 rfl, rfl⟩, z_iconst_3⟩
theorem dX12_isKey_139 : vm_at cX12_isKey 139 (.invokevirtual 113) 3 142 := ⟨vm_row tbX12_isKey 67 rfl, rfl⟩
theorem dX12_isKey_142 : vm_at cX12_isKey 142 (.ireturn) 1 143 := ⟨vm_row tbX12_isKey 68 rfl, rfl⟩
theorem dX12_isKey_143 : vm_at cX12_isKey 143 (.iload_n 1) 1 144 ∧ ((1 : Fin 4) : Nat) = 1 := ⟨⟨vm_row tbX12_isKey 69 rfl, rfl⟩, rfl⟩
theorem dX12_isKey_144 : vm_at cX12_isKey 144 (.iconst (-1)) 1 145 ∧ Int32.ofInt (-1) = (-1 : Int32) := ⟨⟨vm_row tbX12_isKey 70 rfl, rfl⟩, z_iconst_m1⟩
theorem dX12_isKey_145 : vm_br cX12_isKey 145 (.if_icmp .ne 9) 3 148 (9) 154 := ⟨vm_row tbX12_isKey 71 rfl, rfl, rfl⟩
theorem dX12_isKey_148 : vm_at cX12_isKey 148 (.aload_n 0) 1 149 ∧ ((0 : Fin 4) : Nat) = 0 := ⟨⟨vm_row tbX12_isKey 72 rfl, rfl⟩, rfl⟩
theorem dX12_isKey_149 : vm_at cX12_isKey 149 (.iconst 1) 1 150 ∧ Int32.ofInt (1) = (1 : Int32) := ⟨⟨vm_row tbX12_isKey 73 rfl, rfl⟩, z_iconst_1⟩
theorem dX12_isKey_150 : vm_at cX12_isKey 150 (.invokevirtual 113) 3 153 := ⟨vm_row tbX12_isKey 74 rfl, rfl⟩
theorem dX12_isKey_153 : vm_at cX12_isKey 153 (.ireturn) 1 154 := ⟨vm_row tbX12_isKey 75 rfl, rfl⟩
theorem dX12_isKey_154 : vm_at cX12_isKey 154 (.aload_n 0) 1 155 ∧ ((0 : Fin 4) : Nat) = 0 := ⟨⟨vm_row tbX12_isKey 76 rfl, rfl⟩, rfl⟩
theorem dX12_isKey_155 : vm_at cX12_isKey 155 (.getfield 161) 3 158 := ⟨vm_row tbX12_isKey 77 rfl, rfl⟩
theorem dX12_isKey_158 : vm_at cX12_isKey 158 (.bipush 8) 2 160 ∧ (Int8.ofInt (8)).toInt32 = (8 : Int32) := ⟨⟨vm_row tbX12_isKey 78 rfl, rfl⟩, z_bipush_8⟩
theorem dX12_isKey_160 : vm_br cX12_isKey 160 (.if_icmp .ne 9) 3 163 (9) 169 := ⟨vm_row tbX12_isKey 79 rfl, rfl, rfl⟩
theorem dX12_isKey_163 : vm_at cX12_isKey 163 (.aload_n 0) 1 164 ∧ ((0 : Fin 4) : Nat) = 0 := ⟨⟨vm_row tbX12_isKey 80 rfl, rfl⟩, rfl⟩
theorem dX12_isKey_164 : vm_at cX12_isKey 164 (.iconst 3) 1 165 ∧ Int32.ofInt (3) = (3 : Int32) := ⟨⟨vm_row tbX12_isKey 81 rfl, rfl⟩, z_iconst_3⟩
theorem dX12_isKey_165 : vm_at cX12_isKey 165 (.invokevirtual 113) 3 168 := ⟨vm_row tbX12_isKey 82 rfl, rfl⟩
theorem dX12_isKey_168 : vm_at cX12_isKey 168 (.ireturn) 1 169 := ⟨vm_row tbX12_isKey 83 rfl, rfl⟩
theorem dX12_isKey_169 : vm_at cX12_isKey 169 (.iconst 4) 1 170 ∧ Int32.ofInt (4) = (4 : Int32) := ⟨⟨vm_row tbX12_isKey 84 rfl, rfl⟩, z_iconst_4⟩
theorem dX12_isKey_170 : vm_at cX12_isKey 170 (.aload_n 0) 1 171 ∧ ((0 : Fin 4) : Nat) = 0 := ⟨⟨vm_row tbX12_isKey 85 rfl, rfl⟩, rfl⟩
theorem dX12_isKey_171 : vm_at cX12_isKey 171 (.getfield 161) 3 174 := ⟨vm_row tbX12_isKey 86 rfl, rfl⟩
theorem dX12_isKey_174 : vm_at cX12_isKey 174 (.imul) 1 175 := ⟨vm_row tbX12_isKey 87 rfl, rfl⟩
theorem dX12_isKey_175 : vm_at cX12_isKey 175 (.istore_n 2) 1 176 ∧ ((2 : Fin 4) : Nat) = 2 := ⟨⟨vm_row tbX12_isKey 88 rfl, rfl⟩, rfl⟩
theorem dX12_isKey_176 : vm_at cX12_isKey 176 (.aload_n 0) 1 177 ∧ ((0 : Fin 4) : Nat) = 0 := ⟨⟨vm_row tbX12_isKey 89 rfl, rfl⟩, rfl⟩
theorem dX12_isKey_177 : vm_at cX12_isKey 177 (.dup) 1 178 := ⟨vm_row tbX12_isKey 90 rfl, rfl⟩
theorem dX12_isKey_178 : vm_at cX12_isKey 178 (.getfield 161) 3 181 := ⟨vm_row tbX12_isKey 91 rfl, rfl⟩
theorem dX12_isKey_181 : vm_at cX12_isKey 181 (.iconst 1) 1 182 ∧ Int32.ofInt (1) = (1 : Int32) := ⟨⟨vm_row tbX12_isKey 92 rfl, rfl⟩, z_iconst_1⟩
theorem dX12_isKey_182 : vm_at cX12_isKey 182 (.iadd) 1 183 := ⟨vm_row tbX12_isKey 93 rfl, rfl⟩
theorem dX12_isKey_183 : vm_at cX12_isKey 183 (.putfield 161) 3 186 := ⟨vm_row tbX12_isKey 94 rfl, rfl⟩
theorem dX12_isKey_186 : vm_at cX12_isKey 186 (.aload_n 0) 1 187 ∧ ((0 : Fin 4) : Nat) = 0 := ⟨⟨vm_row tbX12_isKey 95 rfl, rfl⟩, rfl⟩
theorem dX12_isKey_187 : vm_at cX12_isKey 187 (.getfield 23) 3 190 := ⟨vm_row tbX12_isKey 96 rfl, rfl⟩
theorem dX12_isKey_190 : vm_at cX12_isKey 190 (.iload_n 2) 1 191 ∧ ((2 : Fin 4) : Nat) = 2 := ⟨⟨vm_row tbX12_isKey 97 rfl, rfl⟩, rfl⟩
theorem dX12_isKey_191 : vm_at cX12_isKey 191 (.iload_n 1) 1 192 ∧ ((1 : Fin 4) : Nat) = 1 := ⟨⟨vm_row tbX12_isKey 98 rfl, rfl⟩, rfl⟩
theorem dX12_isKey_192 : vm_at cX12_isKey 192 (.iastore) 1 193 := ⟨vm_row tbX12_isKey 99 rfl, rfl⟩
theorem dX12_isKey_193 : vm_at cX12_isKey 193 (.aload_n 0) 1 194 ∧ ((0 : Fin 4) : Nat) = 0 := ⟨⟨vm_row tbX12_isKey 100 rfl, rfl⟩, rfl⟩
theorem dX12_isKey_194 : vm_at cX12_isKey 194 (.getfield 23) 3 197 := ⟨vm_row tbX12_isKey 101 rfl, rfl⟩
theorem dX12_isKey_197 : vm_at cX12_isKey 197 (.iload_n 2) 1 198 ∧ ((2 : Fin 4) : Nat) = 2 := ⟨⟨vm_row tbX12_isKey 102 rfl, rfl⟩, rfl⟩
theorem dX12_isKey_198 : vm_at cX12_isKey 198 (.iconst 2) 1 199 ∧ Int32.ofInt (2) = (2 : Int32) := ⟨⟨vm_row tbX12_isKey 103 rfl, rfl⟩, z_iconst_2⟩
theorem dX12_isKey_199 : vm_at cX12_isKey 199 (.iadd) 1 200 := ⟨vm_row tbX12_isKey 104 rfl, rfl⟩
theorem dX12_isKey_200 : vm_at cX12_isKey 200 (.iconst (-1)) 1 201 ∧ Int32.ofInt (-1) = (-1 : Int32) := ⟨⟨vm_row tbX12_isKey 105 rfl, rfl⟩, z_iconst_m1⟩
theorem dX12_isKey_201 : vm_at cX12_isKey 201 (.iastore) 1 202 := ⟨vm_row tbX12_isKey 106 rfl, rfl⟩
theorem dX12_isKey_202 : vm_at cX12_isKey 202 (.aload_n 0) 1 203 ∧ ((0 : Fin 4) : Nat) = 0 := ⟨⟨vm_row tbX12_isKey 107 rfl, rfl⟩, rfl⟩
theorem dX12_isKey_203 : vm_at cX12_isKey 203 (.getfield 23) 3 206 := ⟨vm_row tbX12_isKey 108 rfl, rfl⟩
theorem dX12_isKey_206 : vm_at cX12_isKey 206 (.iload_n 2) 1 207 ∧ ((2 : Fin 4) : Nat) = 2 := ⟨⟨vm_row tbX12_isKey 109 rfl, rfl⟩, rfl⟩
theorem dX12_isKey_207 : vm_at cX12_isKey 207 (.iconst 3) 1 208 ∧ Int32.ofInt (3) = (3 : Int32) := ⟨⟨vm_row tbX12_isKey 110 rfl, rfl⟩, z_iconst_3⟩
theorem dX12_isKey_208 : vm_at cX12_isKey 208 (.iadd) 1 209 := ⟨vm_row tbX12_isKey 111 rfl, rfl⟩
theorem dX12_isKey_209 : vm_at cX12_isKey 209 (.iconst (-1)) 1 210 ∧ Int32.ofInt (-1) = (-1 : Int32) := ⟨⟨vm_row tbX12_isKey 112 rfl, rfl⟩, z_iconst_m1⟩
theorem dX12_isKey_210 : vm_at cX12_isKey 210 (.iastore) 1 211 := ⟨vm_row tbX12_isKey 113 rfl, rfl⟩
theorem dX12_isKey_211 : vm_at cX12_isKey 211 (.iload_n 1) 1 212 ∧ ((1 : Fin 4) : Nat) = 1 := ⟨⟨vm_row tbX12_isKey 114 rfl, rfl⟩, rfl⟩
theorem dX12_isKey_212 : vm_at cX12_isKey 212 (.bipush 6) 2 214 ∧ (Int8.ofInt (6)).toInt32 = (6 : Int32) := ⟨⟨vm_row tbX12_isKey 115 rfl, rfl⟩, z_bipush_6⟩
theorem dX12_isKey_214 : vm_br cX12_isKey 214 (.if_icmp .ne 9) 3 217 (9) 223 := ⟨vm_row tbX12_isKey 116 rfl, rfl, rfl⟩
theorem dX12_isKey_217 : vm_at cX12_isKey 217 (.aload_n 0) 1 218 ∧ ((0 : Fin 4) : Nat) = 0 := ⟨⟨vm_row tbX12_isKey 117 rfl, rfl⟩, rfl⟩
theorem dX12_isKey_218 : vm_at cX12_isKey 218 (.iload_n 2) 1 219 ∧ ((2 : Fin 4) : Nat) = 2 := ⟨⟨vm_row tbX12_isKey 118 rfl, rfl⟩, rfl⟩
theorem dX12_isKey_219 : vm_at cX12_isKey 219 (.invokevirtual 164) 3 222 := ⟨vm_row tbX12_isKey 119 rfl, rfl⟩
theorem dX12_isKey_222 : vm_at cX12_isKey 222 (.ireturn) 1 223 := ⟨vm_row tbX12_isKey 120 rfl, rfl⟩
theorem dX12_isKey_223 : vm_at cX12_isKey 223 (.iload_n 1) 1 224 ∧ ((1 : Fin 4) : Nat) = 1 := ⟨⟨vm_row tbX12_isKey 121 rfl, rfl⟩, rfl⟩
theorem dX12_isKey_224 : vm_br cX12_isKey 224 (.ifCond .eq 9) 3 227 (9) 233 := ⟨vm_row tbX12_isKey 122 rfl, rfl, rfl⟩
theorem dX12_isKey_227 : vm_at cX12_isKey 227 (.iload_n 1) 1 228 ∧ ((1 : Fin 4) : Nat) = 1 := ⟨⟨vm_row tbX12_isKey 123 rfl, rfl⟩, rfl⟩
theorem dX12_isKey_228 : vm_at cX12_isKey 228 (.bipush 7) 2 230 ∧ (Int8.ofInt (7)).toInt32 = (7 : Int32) := ⟨⟨vm_row tbX12_isKey 124 rfl, rfl⟩, z_bipush_7⟩
theorem dX12_isKey_230 : vm_br cX12_isKey 230 (.if_icmp .ne 20) 3 233 (20) 250 := ⟨vm_row tbX12_isKey 125 rfl, rfl, rfl⟩
theorem dX12_isKey_233 : vm_at cX12_isKey 233 (.aload_n 0) 1 234 ∧ ((0 : Fin 4) : Nat) = 0 := ⟨⟨vm_row tbX12_isKey 126 rfl, rfl⟩, rfl⟩
theorem dX12_isKey_234 : vm_at cX12_isKey 234 (.iload_n 2) 1 235 ∧ ((2 : Fin 4) : Nat) = 2 := ⟨⟨vm_row tbX12_isKey 127 rfl, rfl⟩, rfl⟩
theorem dX12_isKey_235 : vm_at cX12_isKey 235 (.iconst 2) 1 236 ∧ Int32.ofInt (2) = (2 : Int32) := ⟨⟨vm_row tbX12_isKey 128 rfl, rfl⟩, z_iconst_2⟩
theorem dX12_isKey_236 : vm_at cX12_isKey 236 (.iadd) 1 237 := ⟨vm_row tbX12_isKey 129 rfl, rfl⟩
theorem dX12_isKey_237 : vm_at cX12_isKey 237 (.iconst 0) 1 238 ∧ Int32.ofInt (0) = (0 : Int32) := ⟨⟨vm_row tbX12_isKey 130 rfl, rfl⟩, z_iconst_0⟩
theorem dX12_isKey_238 : vm_at cX12_isKey 238 (.aload_n 0) 1 239 ∧ ((0 : Fin 4) : Nat) = 0 := ⟨⟨vm_row tbX12_isKey 131 rfl, rfl⟩, rfl⟩
theorem dX12_isKey_239 : vm_at cX12_isKey 239 (.getfield 127) 3 242 := ⟨vm_row tbX12_isKey 132 rfl, rfl⟩
theorem dX12_isKey_242 : vm_at cX12_isKey 242 (.iconst 1) 1 243 ∧ Int32.ofInt (1) = (1 : Int32) := ⟨⟨vm_row tbX12_isKey 133 rfl, rfl⟩, z_iconst_1⟩
theorem dX12_isKey_243 : vm_at cX12_isKey 243 (.isub) 1 244 := ⟨vm_row tbX12_isKey 134 rfl, rfl⟩
theorem dX12_isKey_244 : vm_at cX12_isKey 244 (.invokevirtual 124) 3 247 := ⟨vm_row tbX12_isKey 135 rfl, rfl⟩
theorem dX12_isKey_247 : vm_br cX12_isKey 247 (.ifCond .eq 7) 3 250 (7) 254 := ⟨vm_row tbX12_isKey 136 rfl, rfl, rfl⟩
theorem dX12_isKey_250 : vm_at cX12_isKey 250 (.iconst 1) 1 251 ∧ Int32.ofInt (1) = (1 : Int32) := ⟨⟨vm_row tbX12_isKey 137 rfl, rfl⟩, z_iconst_1⟩
theorem dX12_isKey_251 : vm_br cX12_isKey 251 (.goto 4) 3 254 (4) 255 := ⟨vm_row tbX12_isKey 138 rfl, rfl, rfl⟩
theorem dX12_isKey_254 : vm_at cX12_isKey 254 (.iconst 0) 1 255 ∧ Int32.ofInt (0) = (0 : Int32) := ⟨⟨vm_row tbX12_isKey 139 rfl, rfl⟩, z_iconst_0⟩
theorem dX12_isKey_255 : vm_at cX12_isKey 255 (.istore_n 3) 1 256 ∧ ((3 : Fin 4) : Nat) = 3 := ⟨⟨vm_row tbX12_isKey 140 rfl, rfl⟩, rfl⟩
theorem dX12_isKey_256 : vm_at cX12_isKey 256 (.iload_n 3) 1 257 ∧ ((3 : Fin 4) : Nat) = 3 := ⟨⟨vm_row tbX12_isKey 141 rfl, rfl⟩, rfl⟩
theorem dX12_isKey_257 : vm_br cX12_isKey 257 (.ifCond .eq 30) 3 260 (30) 287 := ⟨vm_row tbX12_isKey 142 rfl, rfl, rfl⟩
theorem dX12_isKey_260 : vm_at cX12_isKey 260 (.iload_n 1) 1 261 ∧ ((1 : Fin 4) : Nat) = 1 := ⟨⟨vm_row tbX12_isKey 143 rfl, rfl⟩, rfl⟩
theorem dX12_isKey_261 : vm_at cX12_isKey 261 (.bipush 7) 2 263 ∧ (Int8.ofInt (7)).toInt32 = (7 : Int32) := ⟨⟨vm_row tbX12_isKey 144 rfl, rfl⟩, z_bipush_7⟩
theorem dX12_isKey_263 : vm_br cX12_isKey 263 (.if_icmp .ne 20) 3 266 (20) 283 := ⟨vm_row tbX12_isKey 145 rfl, rfl, rfl⟩
theorem dX12_isKey_266 : vm_at cX12_isKey 266 (.aload_n 0) 1 267 ∧ ((0 : Fin 4) : Nat) = 0 := ⟨⟨vm_row tbX12_isKey 146 rfl, rfl⟩, rfl⟩
theorem dX12_isKey_267 : vm_at cX12_isKey 267 (.iload_n 2) 1 268 ∧ ((2 : Fin 4) : Nat) = 2 := ⟨⟨vm_row tbX12_isKey 147 rfl, rfl⟩, rfl⟩
theorem dX12_isKey_268 : vm_at cX12_isKey 268 (.iconst 3) 1 269 ∧ Int32.ofInt (3) = (3 : Int32) := ⟨⟨vm_row tbX12_isKey 148 rfl, rfl⟩, z_iconst_3⟩
theorem dX12_isKey_269 : vm_at cX12_isKey 269 (.iadd) 1 270 := ⟨vm_row tbX12_isKey 149 rfl, rfl⟩
theorem dX12_isKey_270 : vm_at cX12_isKey 270 (.iconst 0) 1 271 ∧ Int32.ofInt (0) = (0 : Int32) := ⟨⟨vm_row tbX12_isKey 150 rfl, rfl⟩, z_iconst_0⟩
theorem dX12_isKey_271 : vm_at cX12_isKey 271 (.aload_n 0) 1 272 ∧ ((0 : Fin 4) : Nat) = 0 := ⟨⟨vm_row tbX12_isKey 151 rfl, rfl⟩, rfl⟩
theorem dX12_isKey_272 : vm_at cX12_isKey 272 (.getfield 127) 3 275 := ⟨vm_row tbX12_isKey 152 rfl, rfl⟩
theorem dX12_isKey_275 : vm_at cX12_isKey 275 (.iconst 1) 1 276 ∧ Int32.ofInt (1) = (1 : Int32) := ⟨⟨vm_row tbX12_isKey 153 rfl, rfl⟩, z_iconst_1⟩
theorem dX12_isKey_276 : vm_at cX12_isKey 276 (.isub) 1 277 := ⟨vm_row tbX12_isKey 154 rfl, rfl⟩
theorem dX12_isKey_277 : vm_at cX12_isKey 277 (.invokevirtual 124) 3 280 := ⟨vm_row tbX12_isKey 155 rfl, rfl⟩
theorem dX12_isKey_280 : vm_br cX12_isKey 280 (.ifCond .eq 7) 3 283 (7) 287 := ⟨vm_row tbX12_isKey 156 rfl, rfl, rfl⟩
theorem dX12_isKey_283 : vm_at cX12_isKey 283 (.iconst 1) 1 284 ∧ Int32.ofInt (1) = (1 : Int32) := ⟨⟨vm_row tbX12_isKey 157 rfl, rfl⟩, z_iconst_1⟩
theorem dX12_isKey_284 : vm_br cX12_isKey 284 (.goto 4) 3 287 (4) 288 := ⟨vm_row tbX12_isKey 158 rfl, rfl, rfl⟩
theorem dX12_isKey_287 : vm_at cX12_isKey 287 (.iconst 0) 1 288 ∧ Int32.ofInt (0) = (0 : Int32) := ⟨⟨vm_row tbX12_isKey 159 rfl, rfl⟩, z_iconst_0⟩
theorem dX12_isKey_288 : vm_at cX12_isKey 288 (.istore_n 3) 1 289 ∧ ((3 : Fin 4) : Nat) = 3 := ⟨⟨vm_row tbX12_isKey 160 rfl, rfl⟩, rfl⟩
theorem dX12_isKey_289 : vm_at cX12_isKey 289 (.iload_n 3) 1 290 ∧ ((3 : Fin 4) : Nat) = 3 := ⟨⟨vm_row tbX12_isKey 161 rfl, rfl⟩, rfl⟩
theorem dX12_isKey_290 : vm_br cX12_isKey 290 (.ifCond .eq 15) 3 293 (15) 305 := ⟨vm_row tbX12_isKey 162 rfl, rfl, rfl⟩
theorem dX12_isKey_293 : vm_at cX12_isKey 293 (.aload_n 0) 1 294 ∧ ((0 : Fin 4) : Nat) = 0 := ⟨⟨vm_row tbX12_isKey 163 rfl, rfl⟩, rfl⟩
theorem dX12_isKey_294 : vm_at cX12_isKey 294 (.iload_n 2) 1 295 ∧ ((2 : Fin 4) : Nat) = 2 := ⟨⟨vm_row tbX12_isKey 164 rfl, rfl⟩, rfl⟩
theorem dX12_isKey_295 : vm_at cX12_isKey 295 (.invokevirtual 146) 3 298 := ⟨vm_row tbX12_isKey 165 rfl, rfl⟩
theorem dX12_isKey_298 : vm_br cX12_isKey 298 (.ifCond .eq 7) 3 301 (7) 305 := ⟨vm_row tbX12_isKey 166 rfl, rfl, rfl⟩
theorem dX12_isKey_301 : vm_at cX12_isKey 301 (.iconst 1) 1 302 ∧ Int32.ofInt (1) = (1 : Int32) := ⟨⟨vm_row tbX12_isKey 167 rfl, rfl⟩, z_iconst_1⟩
theorem dX12_isKey_302 : vm_br cX12_isKey 302 (.goto 4) 3 305 (4) 306 := ⟨vm_row tbX12_isKey 168 rfl, rfl, rfl⟩
theorem dX12_isKey_305 : vm_at cX12_isKey 305 (.iconst 0) 1 306 ∧ Int32.ofInt (0) = (0 : Int32) := ⟨⟨vm_row tbX12_isKey 169 rfl, rfl⟩, z_iconst_0⟩
theorem dX12_isKey_306 : vm_at cX12_isKey 306 (.ireturn) 1 307 := ⟨vm_row tbX12_isKey 170 rfl, rfl⟩
def tlX12_isRead : List (Nat × Instr × Nat) := [(0, .aload_n 0, 1), (1, .iconst 0, 1), (2, .putfield 79, 3), (5, .aload_n 0, 1), (6, .iconst (-1), 1), (7, .putfield 121, 3), (10, .aload_n 0, 1), (11, .iconst 0, 1), (12, .putfield 127, 3), (15, .aload_n 0, 1), (16, .iconst 0, 1), (17, .putfield 130, 3), (20, .aload_n 0, 1), (21, .iconst 0, 1), (22, .putfield 133, 3), (25, .aload_n 0, 1), (26, .iconst 0, 1), (27, .putfield 161, 3), (30, .aload_n 0, 1), (31, .invokevirtual 110, 3), (34, .aload_n 0, 1), (35, .getfield 93, 3), (38, .ldc2_w 91, 3), (41, .lcmp, 1), (42, .ifCond .ne 5, 3), (45, .iconst 1, 1), (46, .ireturn, 1), (47, .aload_n 0, 1), (48, .getfield 93, 3), (51, .ldc2_w 159, 3), (54, .lcmp, 1), (55, .ifCond .eq 9, 3), (58, .aload_n 0, 1), (59, .iconst 1, 1), (60, .invokevirtual 113, 3), (63, .ireturn, 1), (64, .aload_n 0, 1), (65, .invokevirtual 167, 3), (68, .istore_n 1, 1), (69, .iload_n 1, 1), (70, .ifCond .eq 28, 3), (73, .aload_n 0, 1), (74, .invokevirtual 110, 3), (77, .aload_n 0, 1), (78, .getfield 93, 3), (81, .ldc2_w 91, 3), (84, .lcmp, 1), (85, .ifCond .ne 5, 3), (88, .iconst 1, 1), (89, .ireturn, 1), (90, .aload_n 0, 1), (91, .invokevirtual 170, 3), (94, .istore_n 1, 1), (95, .goto (-26), 3), (98, .iconst 0, 1), (99, .ireturn, 1)]
theorem tbX12_isRead : vm_chk cX12_isRead tlX12_isRead = true := by decide +kernel
theorem dX12_isRead_0 : vm_at cX12_isRead 0 (.aload_n 0) 1 1 ∧ ((0 : Fin 4) : Nat) = 0 := ⟨⟨vm_row tbX12_isRead 0 rfl, rfl⟩, rfl⟩
theorem dX12_isRead_1 : vm_at cX12_isRead 1 (.iconst 0) 1 2 ∧ Int32.ofInt (0) = (0 : Int32) := ⟨⟨vm_row tbX12_isRead 1 rfl, rfl⟩, z_iconst_0⟩
theorem dX12_isRead_2 : vm_at cX12_isRead 2 (.putfield 79) 3 5 := ⟨vm_row tbX12_isRead 2 rfl, rfl⟩
theorem dX12_isRead_5 : vm_at cX12_isRead 5 (.aload_n 0) 1 6 ∧ ((0 : Fin 4) : Nat) = 0 := ⟨⟨vm_row tbX12_isRead 3 rfl, rfl⟩, rfl⟩
theorem dX12_isRead_6 : vm_at cX12_isRead 6 (.iconst (-1)) 1 7 ∧ Int32.ofInt (-1) = (-1 : Int32) := ⟨⟨vm_row tbX12_isRead 4 rfl, rfl⟩, z_iconst_m1⟩
theorem dX12_isRead_7 : vm_at cX12_isRead 7 (.putfield 121) 3 10 := ⟨vm_row tbX12_isRead 5 rfl, rfl⟩
theorem dX12_isRead_10 : vm_at cX12_isRead 10 (.aload_n 0) 1 11 ∧ ((0 : Fin 4) : Nat) = 0 := ⟨⟨vm_row tbX12_isRead 6 rfl, rfl⟩, rfl⟩
theorem dX12_isRead_11 : vm_at cX12_isRead 11 (.iconst 0) 1 12 ∧ Int32.ofInt (0) = (0 : Int32) := ⟨⟨vm_row tbX12_isRead 7 rfl, rfl⟩, z_iconst_0⟩
theorem dX12_isRead_12 : vm_at cX12_isRead 12 (.putfield 127) 3 15 := ⟨vm_row tbX12_isRead 8 rfl, rfl⟩
theorem dX12_isRead_15 : vm_at cX12_isRead 15 (.aload_n 0) 1 16 ∧ ((0 : Fin 4) : Nat) = 0 := ⟨⟨vm_row tbX12_isRead 9 rfl, rfl⟩, rfl⟩
theorem dX12_isRead_16 : vm_at cX12_isRead 16 (.iconst 0) 1 17 ∧ Int32.ofInt (0) = (0 : Int32) := ⟨⟨vm_row tbX12_isRead 10 rfl, rfl⟩, z_iconst_0⟩
theorem dX12_isRead_17 : vm_at cX12_isRead 17 (.putfield 130) 3 20 := ⟨vm_row tbX12_isRead 11 rfl, rfl⟩
theorem dX12_isRead_20 : vm_at cX12_isRead 20 (.aload_n 0) 1 21 ∧ ((0 : Fin 4) : Nat) = 0 := ⟨⟨vm_row tbX12_isRead 12 rfl, rfl⟩, rfl⟩
theorem dX12_isRead_21 : vm_at cX12_isRead 21 (.iconst 0) 1 22 ∧ Int32.ofInt (0) = (0 : Int32) := ⟨⟨vm_row tbX12_isRead 13 rfl, rfl⟩, z_iconst_0⟩
theorem dX12_isRead_22 : vm_at cX12_isRead 22 (.putfield 133) 3 25 := ⟨vm_row tbX12_isRead 14 rfl, rfl⟩
theorem dX12_isRead_25 : vm_at cX12_isRead 25 (.aload_n 0) 1 26 ∧ ((0 : Fin 4) : Nat) = 0 := ⟨⟨vm_row tbX12_isRead 15 rfl, rfl⟩, rfl⟩
theorem dX12_isRead_26 : vm_at cX12_isRead 26 (.iconst 0) 1 27 ∧ Int32.ofInt (0) = (0 : Int32) := ⟨⟨vm_row tbX12_isRead 16 rfl, rfl⟩, z_iconst_0⟩
theorem dX12_isRead_27 : vm_at cX12_isRead 27 (.putfield 161) 3 30 := ⟨vm_row tbX12_isRead 17 rfl, rfl⟩
theorem dX12_isRead_30 : vm_at cX12_isRead 30 (.aload_n 0) 1 31 ∧ ((0 : Fin 4) : Nat) = 0 := ⟨⟨vm_row tbX12_isRead 18 rfl, rfl⟩, rfl⟩
theorem dX12_isRead_31 : vm_at cX12_isRead 31 (.invokevirtual 110) 3 34 := ⟨vm_row tbX12_isRead 19 rfl, rfl⟩
theorem dX12_isRead_34 : vm_at cX12_isRead 34 (.aload_n 0) 1 35 ∧ ((0 : Fin 4) : Nat) = 0 := ⟨⟨vm_row tbX12_isRead 20 rfl, rfl⟩, rfl⟩
theorem dX12_isRead_35 : vm_at cX12_isRead 35 (.getfield 93) 3 38 := ⟨vm_row tbX12_isRead 21 rfl, rfl⟩
theorem dX12_isRead_38 : vm_at cX12_isRead 38 (.ldc2_w 91) 3 41 := ⟨vm_row tbX12_isRead 22 rfl, rfl⟩
theorem dX12_isRead_41 : vm_at cX12_isRead 41 (.lcmp) 1 42 := ⟨vm_row tbX12_isRead 23 rfl, rfl⟩
theorem dX12_isRead_42 : vm_br cX12_isRead 42 (.ifCond .ne 5) 3 45 (5) 47 := ⟨vm_row tbX12_isRead 24 rfl, rfl, rfl⟩
theorem dX12_isRead_45 : vm_at cX12_isRead 45 (.iconst 1) 1 46 ∧ Int32.ofInt (1) = (1 : Int32) := ⟨⟨vm_row tbX12_isRead 25 rfl, rfl⟩, z_iconst_1⟩
theorem dX12_isRead_46 : vm_at cX12_isRead 46 (.ireturn) 1 47 := ⟨vm_row tbX12_isRead 26 rfl, rfl⟩
theorem dX12_isRead_47 : vm_at cX12_isRead 47 (.aload_n 0) 1 48 ∧ ((0 : Fin 4) : Nat) = 0 := ⟨⟨vm_row tbX12_isRead 27 rfl, rfl⟩, rfl⟩
theorem dX12_isRead_48 : vm_at cX12_isRead 48 (.getfield 93) 3 51 := ⟨vm_row tbX12_isRead 28 rfl, rfl⟩
theorem dX12_isRead_51 : vm_at cX12_isRead 51 (.ldc2_w 159) 3 54 := ⟨vm_row tbX12_isRead 29 rfl, rfl⟩
theorem dX12_isRead_54 : vm_at cX12_isRead 54 (.lcmp) 1 55 := ⟨vm_row tbX12_isRead 30 rfl, rfl⟩
theorem dX12_isRead_55 : vm_br cX12_isRead 55 (.ifCond .eq 9) 3 58 (9) 64 := ⟨vm_row tbX12_isRead 31 rfl, rfl, rfl⟩
theorem dX12_isRead_58 : vm_at cX12_isRead 58 (.aload_n 0) 1 59 ∧ ((0 : Fin 4) : Nat) = 0 := ⟨⟨vm_row tbX12_isRead 32 rfl, rfl⟩, rfl⟩
theorem dX12_isRead_59 : vm_at cX12_isRead 59 (.iconst 1) 1 60 ∧ Int32.ofInt (1) = (1 : Int32) := ⟨⟨vm_row tbX12_isRead 33 rfl, rfl⟩, z_iconst_1⟩
theorem dX12_isRead_60 : vm_at cX12_isRead 60 (.invokevirtual 113) 3 63 := ⟨vm_row tbX12_isRead 34 rfl, rfl⟩
theorem dX12_isRead_63 : vm_at cX12_isRead 63 (.ireturn) 1 64 := ⟨vm_row tbX12_isRead 35 rfl, rfl⟩
theorem dX12_isRead_64 : vm_at cX12_isRead 64 (.aload_n 0) 1 65 ∧ ((0 : Fin 4) : Nat) = 0 := ⟨⟨vm_row tbX12_isRead 36 rfl, rfl⟩, rfl⟩
theorem dX12_isRead_65 : vm_at cX12_isRead 65 (.invokevirtual 167) 3 68 := ⟨vm_row tbX12_isRead 37 rfl, rfl⟩
theorem dX12_isRead_68 : vm_at cX12_isRead 68 (.istore_n 1) 1 69 ∧ ((1 : Fin 4) : Nat) = 1 := ⟨⟨vm_row tbX12_isRead 38 rfl, rfl⟩, rfl⟩
theorem dX12_isRead_69 : vm_at cX12_isRead 69 (.iload_n 1) 1 70 ∧ ((1 : Fin 4) : Nat) = 1 := ⟨⟨vm_row tbX12_isRead 39 rfl, rfl⟩, rfl⟩
theorem dX12_isRead_70 : vm_br cX12_isRead 70 (.ifCond .eq 28) 3 73 (28) 98 := ⟨vm_row tbX12_isRead 40 rfl, rfl, rfl⟩
theorem dX12_isRead_73 : vm_at cX12_isRead 73 (.aload_n 0) 1 74 ∧ ((0 : Fin 4) : Nat) = 0 := ⟨⟨vm_row tbX12_isRead 41 rfl, rfl⟩, rfl⟩
theorem dX12_isRead_74 : vm_at cX12_isRead 74 (.invokevirtual 110) 3 77 := ⟨vm_row tbX12_isRead 42 rfl, rfl⟩
theorem dX12_isRead_77 : vm_at cX12_isRead 77 (.aload_n 0) 1 78 ∧ ((0 : Fin 4) : Nat) = 0 := ⟨⟨vm_row tbX12_isRead 43 rfl, rfl⟩, rfl⟩
theorem dX12_isRead_78 : vm_at cX12_isRead 78 (.getfield 93) 3 81 := ⟨vm_row tbX12_isRead 44 rfl, rfl⟩
theorem dX12_isRead_81 : vm_at cX12_isRead 81 (.ldc2_w 91) 3 84 := ⟨vm_row tbX12_isRead 45 rfl, rfl⟩
theorem dX12_isRead_84 : vm_at cX12_isRead 84 (.lcmp) 1 85 := ⟨vm_row tbX12_isRead 46 rfl, rfl⟩
theorem dX12_isRead_85 : vm_br cX12_isRead 85 (.ifCond .ne 5) 3 88 (5) 90 := ⟨vm_row tbX12_isRead 47 rfl, rfl, rfl⟩
theorem dX12_isRead_88 : vm_at cX12_isRead 88 (.iconst 1) 1 89 ∧ Int32.ofInt (1) = (1 : Int32) := ⟨⟨vm_row tbX12_isRead 48 rfl, rfl⟩, z_iconst_1⟩
theorem dX12_isRead_89 : vm_at cX12_isRead 89 (.ireturn) 1 90 := ⟨vm_row tbX12_isRead 49 rfl, rfl⟩
theorem dX12_isRead_90 : vm_at cX12_isRead 90 (.aload_n 0) 1 91 ∧ ((0 : Fin 4) : Nat) = 0 := ⟨⟨vm_row tbX12_isRead 50 rfl, rfl⟩, rfl⟩
theorem dX12_isRead_91 : vm_at cX12_isRead 91 (.invokevirtual 170) 3 94 := ⟨vm_row tbX12_isRead 51 rfl, rfl⟩
theorem dX12_isRead_94 : vm_at cX12_isRead 94 (.istore_n 1) 1 95 ∧ ((1 : Fin 4) : Nat) = 1 := ⟨⟨vm_row tbX12_isRead 52 rfl, rfl⟩, rfl⟩
theorem dX12_isRead_95 : vm_br cX12_isRead 95 (.goto (-26)) 3 98 (-26) 69 := ⟨vm_row tbX12_isRead 53 rfl, rfl, rfl⟩
theorem dX12_isRead_98 : vm_at cX12_isRead 98 (.iconst 0) 1 99 ∧ Int32.ofInt (0) = (0 : Int32) := ⟨⟨vm_row tbX12_isRead 54 rfl, rfl⟩, z_iconst_0⟩
theorem dX12_isRead_99 : vm_at cX12_isRead 99 (.ireturn) 1 100 := ⟨vm_row tbX12_isRead 55 rfl, rfl⟩
def tlX12_reckoner : List (Nat × Instr × Nat) := [(0, .aload_n 0, 1), (1, .invokevirtual 173, 3), (4, .istore_n 1, 1), (5, .aload_n 0, 1), (6, .iconst 0, 1), (7, .putfield 73, 3), (10, .iload_n 1, 1), (11, .ifCond .ne 11, 3), (14, .bipush (-10), 2), (16, .aload_n 0, 1), (17, .getfield 107, 3), (20, .isub, 1), (21, .ireturn, 1), (22, .aload_n 0, 1), (23, .iconst (-1), 1), (24, .putfield 20, 3), (27, .aload_n 0, 1), (28, .aload_n 0, 1), (29, .getfield 121, 3), (32, .putfield 7, 3), (35, .aload_n 0, 1), (36, .aload_n 0, 1), (37, .getfield 127, 3), (40, .putfield 176, 3), (43, .aload_n 0, 1), (44, .aload_n 0, 1), (45, .getfield 130, 3), (48, .putfield 179, 3), (51, .aload_n 0, 1), (52, .aload_n 0, 1), (53, .getfield 133, 3), (56, .putfield 65, 3), (59, .aload_n 0, 1), (60, .aload_n 0, 1), (61, .getfield 161, 3), (64, .putfield 182, 3), (67, .iconst 0, 1), (68, .istore_n 2, 1), (69, .iload_n 2, 1), (70, .iconst 4, 1), (71, .aload_n 0, 1), (72, .getfield 182, 3), (75, .imul, 1), (76, .if_icmp .ge 21, 3), (79, .aload_n 0, 1), (80, .getfield 13, 3), (83, .iload_n 2, 1), (84, .aload_n 0, 1), (85, .getfield 23, 3), (88, .iload_n 2, 1), (89, .iaload, 1), (90, .iastore, 1), (91, .iinc 2 1, 3), (94, .goto (-25), 3), (97, .aload_n 0, 1), (98, .invokevirtual 185, 3), (101, .aload_n 0, 1), (102, .iconst 0, 1), (103, .putfield 188, 3), (106, .aload_n 0, 1), (107, .iconst 0, 1), (108, .putfield 191, 3), (111, .aload_n 0, 1), (112, .iconst 0, 1), (113, .putfield 194, 3), (116, .aload_n 0, 1), (117, .getfield 39, 3), (120, .iconst 0, 1), (121, .iconst 0, 1), (122, .bastore, 1), (123, .aload_n 0, 1), (124, .getfield 39, 3), (127, .iconst 1, 1), (128, .iconst 0, 1), (129, .bastore, 1), (130, .aload_n 0, 1), (131, .getfield 65, 3), (134, .ireturn, 1)]
theorem tbX12_reckoner : vm_chk cX12_reckoner tlX12_reckoner = true := by decide +kernel
theorem dX12_reckoner_0 : vm_at cX12_reckoner 0 (.aload_n 0) 1 1 ∧ ((0 : Fin 4) : Nat) = 0 := ⟨⟨vm_row tbX12_reckoner 0 rfl, rfl⟩, rfl⟩
theorem dX12_reckoner_1 : vm_at cX12_reckoner 1 (.invokevirtual 173) 3 4 := ⟨vm_row tbX12_reckoner 1 rfl, rfl⟩
theorem dX12_reckoner_4 : vm_at cX12_reckoner 4 (.istore_n 1) 1 5 ∧ ((1 : Fin 4) : Nat) = 1 := ⟨⟨vm_row tbX12_reckoner 2 rfl, rfl⟩, rfl⟩
theorem dX12_reckoner_5 : vm_at cX12_reckoner 5 (.aload_n 0) 1 6 ∧ ((0 : Fin 4) : Nat) = 0 := ⟨⟨vm_row tbX12_reckoner 3 rfl, rfl⟩, rfl⟩
theorem dX12_reckoner_6 : vm_at cX12_reckoner 6 (.iconst 0) 1 7 ∧ Int32.ofInt (0) = (0 : Int32) := ⟨⟨vm_row tbX12_reckoner 4 rfl, rfl⟩, z_iconst_0⟩
theorem dX12_reckoner_7 : vm_at cX12_reckoner 7 (.putfield 73) 3 10 := ⟨vm_row tbX12_reckoner 5 rfl, rfl⟩
theorem dX12_reckoner_10 : vm_at cX12_reckoner 10 (.iload_n 1) 1 11 ∧ ((1 : Fin 4) : Nat) = 1 := ⟨⟨vm_row tbX12_reckoner 6 rfl, rfl⟩, rfl⟩
theorem dX12_reckoner_11 : vm_br cX12_reckoner 11 (.ifCond .ne 11) 3 14 (11) 22 := ⟨vm_row tbX12_reckoner 7 rfl, rfl, rfl⟩
theorem dX12_reckoner_14 : vm_at cX12_reckoner 14 (.bipush (-10)) 2 16 ∧ (Int8.ofInt (-10)).toInt32 = (-10 : Int32) := ⟨⟨vm_row tbX12_reckoner 8 rfl, rfl⟩, z_bipush_m10⟩
theorem dX12_reckoner_16 : vm_at cX12_reckoner 16 (.aload_n 0) 1 17 ∧ ((0 : Fin 4) : Nat) = 0 := ⟨⟨vm_row tbX12_reckoner 9 rfl, rfl⟩, rfl⟩
theorem dX12_reckoner_17 : vm_at cX12_reckoner 17 (.getfield 107) 3 20 := ⟨vm_row tbX12_reckoner 10 rfl, rfl⟩
theorem dX12_reckoner_20 : vm_at cX12_reckoner 20 (.isub) 1 21 := ⟨vm_row tbX12_reckoner 11 rfl, rfl⟩
theorem dX12_reckoner_21 : vm_at cX12_reckoner 21 (.ireturn) 1 22 := ⟨vm_row tbX12_reckoner 12 rfl, rfl⟩
theorem dX12_reckoner_22 : vm_at cX12_reckoner 22 (.aload_n 0) 1 23 ∧ ((0 : Fin 4) : Nat) = 0 := ⟨⟨vm_row tbX12_reckoner 13 rfl, rfl⟩, rfl⟩
theorem dX12_reckoner_23 : vm_at cX12_reckoner 23 (.iconst (-1)) 1 24 ∧ Int32.ofInt (-1) = (-1 : Int32) := ⟨⟨vm_row tbX12_reckoner 14 rfl, rfl⟩, z_iconst_m1⟩
theorem dX12_reckoner_24 : vm_at cX12_reckoner 24 (.putfield 20) 3 27 := ⟨vm_row tbX12_reckoner 15 rfl, rfl⟩
theorem dX12_reckoner_27 : vm_at cX12_reckoner 27 (.aload_n 0) 1 28 ∧ ((0 : Fin 4) : Nat) = 0 := ⟨⟨vm_row tbX12_reckoner 16 rfl, rfl⟩, rfl⟩
theorem dX12_reckoner_28 : vm_at cX12_reckoner 28 (.aload_n 0) 1 29 ∧ ((0 : Fin 4) : Nat) = 0 := ⟨⟨vm_row tbX12_reckoner 17 rfl, rfl⟩, rfl⟩
theorem dX12_reckoner_29 : vm_at cX12_reckoner 29 (.getfield 121) 3 32 := ⟨vm_row tbX12_reckoner 18 rfl, rfl⟩
theorem dX12_reckoner_32 : vm_at cX12_reckoner 32 (.putfield 7) 3 35 := ⟨vm_row tbX12_reckoner 19 rfl, rfl⟩
theorem dX12_reckoner_35 : vm_at cX12_reckoner 35 (.aload_n 0) 1 36 ∧ ((0 : Fin 4) : Nat) = 0 := ⟨⟨vm_row tbX12_reckoner 20 rfl, rfl⟩, rfl⟩
theorem dX12_reckoner_36 : vm_at cX12_reckoner 36 (.aload_n 0) 1 37 ∧ ((0 : Fin 4) : Nat) = 0 := ⟨⟨vm_row tbX12_reckoner 21 rfl, rfl⟩, rfl⟩
theorem dX12_reckoner_37 : vm_at cX12_reckoner 37 (.getfield 127) 3 40 := ⟨vm_row tbX12_reckoner 22 rfl, rfl⟩
theorem dX12_reckoner_40 : vm_at cX12_reckoner 40 (.putfield 176) 3 43 := ⟨vm_row tbX12_reckoner 23 rfl, rfl⟩
theorem dX12_reckoner_43 : vm_at cX12_reckoner 43 (.aload_n 0) 1 44 ∧ ((0 : Fin 4) : Nat) = 0 := ⟨⟨vm_row tbX12_reckoner 24 rfl, rfl⟩, rfl⟩
theorem dX12_reckoner_44 : vm_at cX12_reckoner 44 (.aload_n 0) 1 45 ∧ ((0 : Fin 4) : Nat) = 0 := ⟨⟨vm_row tbX12_reckoner 25 rfl, rfl⟩, rfl⟩
theorem dX12_reckoner_45 : vm_at cX12_reckoner 45 (.getfield 130) 3 48 := ⟨vm_row tbX12_reckoner 26 rfl, rfl⟩
theorem dX12_reckoner_48 : vm_at cX12_reckoner 48 (.putfield 179) 3 51 := ⟨vm_row tbX12_reckoner 27 rfl, rfl⟩
theorem dX12_reckoner_51 : vm_at cX12_reckoner 51 (.aload_n 0) 1 52 ∧ ((0 : Fin 4) : Nat) = 0 := ⟨⟨vm_row tbX12_reckoner 28 rfl, rfl⟩, rfl⟩
theorem dX12_reckoner_52 : vm_at cX12_reckoner 52 (.aload_n 0) 1 53 ∧ ((0 : Fin 4) : Nat) = 0 := ⟨⟨vm_row tbX12_reckoner 29 rfl, rfl⟩, rfl⟩
theorem dX12_reckoner_53 : vm_at cX12_reckoner 53 (.getfield 133) 3 56 := ⟨vm_row tbX12_reckoner 30 rfl, rfl⟩
theorem dX12_reckoner_56 : vm_at cX12_reckoner 56 (.putfield 65) 3 59 := ⟨vm_row tbX12_reckoner 31 rfl, rfl⟩
theorem dX12_reckoner_59 : vm_at cX12_reckoner 59 (.aload_n 0) 1 60 ∧ ((0 : Fin 4) : Nat) = 0 := ⟨⟨vm_row tbX12_reckoner 32 rfl, rfl⟩, rfl⟩
theorem dX12_reckoner_60 : vm_at cX12_reckoner 60 (.aload_n 0) 1 61 ∧ ((0 : Fin 4) : Nat) = 0 := ⟨⟨vm_row tbX12_reckoner 33 rfl, rfl⟩, rfl⟩
theorem dX12_reckoner_61 : vm_at cX12_reckoner 61 (.getfield 161) 3 64 := ⟨vm_row tbX12_reckoner 34 rfl, rfl⟩
theorem dX12_reckoner_64 : vm_at cX12_reckoner 64 (.putfield 182) 3 67 := ⟨vm_row tbX12_reckoner 35 rfl, rfl⟩
theorem dX12_reckoner_67 : vm_at cX12_reckoner 67 (.iconst 0) 1 68 ∧ Int32.ofInt (0) = (0 : Int32) := ⟨⟨vm_row tbX12_reckoner 36 rfl, rfl⟩, z_iconst_0⟩
theorem dX12_reckoner_68 : vm_at cX12_reckoner 68 (.istore_n 2) 1 69 ∧ ((2 : Fin 4) : Nat) = 2 := ⟨⟨vm_row tbX12_reckoner 37 rfl, rfl⟩, rfl⟩
theorem dX12_reckoner_69 : vm_at cX12_reckoner 69 (.iload_n 2) 1 70 ∧ ((2 : Fin 4) : Nat) = 2 := ⟨⟨vm_row tbX12_reckoner 38 rfl, rfl⟩, rfl⟩
theorem dX12_reckoner_70 : vm_at cX12_reckoner 70 (.iconst 4) 1 71 ∧ Int32.ofInt (4) = (4 : Int32) := ⟨⟨vm_row tbX12_reckoner 39 rfl, rfl⟩, z_iconst_4⟩
theorem dX12_reckoner_71 : vm_at cX12_reckoner 71 (.aload_n 0) 1 72 ∧ ((0 : Fin 4) : Nat) = 0 := ⟨⟨vm_row tbX12_reckoner 40 rfl, rfl⟩, rfl⟩
theorem dX12_reckoner_72 : vm_at cX12_reckoner 72 (.getfield 182) 3 75 := ⟨vm_row tbX12_reckoner 41 rfl, rfl⟩
theorem dX12_reckoner_75 : vm_at cX12_reckoner 75 (.imul) 1 76 := ⟨vm_row tbX12_reckoner 42 rfl, rfl⟩
theorem dX12_reckoner_76 : vm_br cX12_reckoner 76 (.if_icmp .ge 21) 3 79 (21) 97 := ⟨vm_row tbX12_reckoner 43 rfl, rfl, rfl⟩
theorem dX12_reckoner_79 : vm_at cX12_reckoner 79 (.aload_n 0) 1 80 ∧ ((0 : Fin 4) : Nat) = 0 := ⟨⟨vm_row tbX12_reckoner 44 rfl, rfl⟩, rfl⟩
theorem dX12_reckoner_80 : vm_at cX12_reckoner 80 (.getfield 13) 3 83 := ⟨vm_row tbX12_reckoner 45 rfl, rfl⟩
theorem dX12_reckoner_83 : vm_at cX12_reckoner 83 (.iload_n 2) 1 84 ∧ ((2 : Fin 4) : Nat) = 2 := ⟨⟨vm_row tbX12_reckoner 46 rfl, rfl⟩, rfl⟩
theorem dX12_reckoner_84 : vm_at cX12_reckoner 84 (.aload_n 0) 1 85 ∧ ((0 : Fin 4) : Nat) = 0 := ⟨⟨vm_row tbX12_reckoner 47 rfl, rfl⟩, rfl⟩
theorem dX12_reckoner_85 : vm_at cX12_reckoner 85 (.getfield 23) 3 88 := ⟨vm_row tbX12_reckoner 48 rfl, rfl⟩
theorem dX12_reckoner_88 : vm_at cX12_reckoner 88 (.iload_n 2) 1 89 ∧ ((2 : Fin 4) : Nat) = 2 := ⟨⟨vm_row tbX12_reckoner 49 rfl, rfl⟩, rfl⟩
theorem dX12_reckoner_89 : vm_at cX12_reckoner 89 (.iaload) 1 90 := ⟨vm_row tbX12_reckoner 50 rfl, rfl⟩
theorem dX12_reckoner_90 : vm_at cX12_reckoner 90 (.iastore) 1 91 := ⟨vm_row tbX12_reckoner 51 rfl, rfl⟩
theorem dX12_reckoner_91 : vm_at cX12_reckoner 91 (.iinc 2 1) 3 94 ∧ Int32.ofInt (1) = (1 : Int32) := ⟨⟨vm_row tbX12_reckoner 52 rfl, rfl⟩, z_iconst_1⟩
theorem dX12_reckoner_94 : vm_br cX12_reckoner 94 (.goto (-25)) 3 97 (-25) 69 := ⟨vm_row tbX12_reckoner 53 rfl, rfl, rfl⟩
theorem dX12_reckoner_97 : vm_at cX12_reckoner 97 (.aload_n 0) 1 98 ∧ ((0 : Fin 4) : Nat) = 0 := ⟨⟨vm_row tbX12_reckoner 54 rfl, rfl⟩, rfl⟩
theorem dX12_reckoner_98 : vm_at cX12_reckoner 98 (.invokevirtual 185) 3 101 := ⟨vm_row tbX12_reckoner 55 rfl, rfl⟩
theorem dX12_reckoner_101 : vm_at cX12_reckoner 101 (.aload_n 0) 1 102 ∧ ((0 : Fin 4) : Nat) = 0 := ⟨⟨vm_row tbX12_reckoner 56 rfl, rfl⟩, rfl⟩
theorem dX12_reckoner_102 : vm_at cX12_reckoner 102 (.iconst 0) 1 103 ∧ Int32.ofInt (0) = (0 : Int32) := ⟨⟨vm_row tbX12_reckoner 57 rfl, rfl⟩, z_iconst_0⟩
theorem dX12_reckoner_103 : vm_at cX12_reckoner 103 (.putfield 188) 3 106 := ⟨vm_row tbX12_reckoner 58 rfl, rfl⟩
theorem dX12_reckoner_106 : vm_at cX12_reckoner 106 (.aload_n 0) 1 107 ∧ ((0 : Fin 4) : Nat) = 0 := ⟨⟨vm_row tbX12_reckoner 59 rfl, rfl⟩, rfl⟩
theorem dX12_reckoner_107 : vm_at cX12_reckoner 107 (.iconst 0) 1 108 ∧ Int32.ofInt (0) = (0 : Int32) := ⟨⟨vm_row tbX12_reckoner 60 rfl, rfl⟩, z_iconst_0⟩
theorem dX12_reckoner_108 : vm_at cX12_reckoner 108 (.putfield 191) 3 111 := ⟨vm_row tbX12_reckoner 61 rfl, rfl⟩
theorem dX12_reckoner_111 : vm_at cX12_reckoner 111 (.aload_n 0) 1 112 ∧ ((0 : Fin 4) : Nat) = 0 := ⟨⟨vm_row tbX12_reckoner 62 rfl, rfl⟩, rfl⟩
theorem dX12_reckoner_112 : vm_at cX12_reckoner 112 (.iconst 0) 1 113 ∧ Int32.ofInt (0) = (0 : Int32) := ⟨⟨vm_row tbX12_reckoner 63 rfl, rfl⟩, z_iconst_0⟩
theorem dX12_reckoner_113 : vm_at cX12_reckoner 113 (.putfield 194) 3 116 := ⟨vm_row tbX12_reckoner 64 rfl, rfl⟩
theorem dX12_reckoner_116 : vm_at cX12_reckoner 116 (.aload_n 0) 1 117 ∧ ((0 : Fin 4) : Nat) = 0 := ⟨⟨vm_row tbX12_reckoner 65 rfl, rfl⟩, rfl⟩
theorem dX12_reckoner_117 : vm_at cX12_reckoner 117 (.getfield 39) 3 120 := ⟨vm_row tbX12_reckoner 66 rfl, rfl⟩
theorem dX12_reckoner_120 : vm_at cX12_reckoner 120 (.iconst 0) 1 121 ∧ Int32.ofInt (0) = (0 : Int32) := ⟨⟨vm_row tbX12_reckoner 67 rfl, rfl⟩, z_iconst_0⟩
theorem dX12_reckoner_121 : vm_at cX12_reckoner 121 (.iconst 0) 1 122 ∧ Int32.ofInt (0) = (0 : Int32) := ⟨⟨vm_row tbX12_reckoner 68 rfl, rfl⟩, z_iconst_0⟩
theorem dX12_reckoner_122 : vm_at cX12_reckoner 122 (.bastore) 1 123 := ⟨vm_row tbX12_reckoner 69 rfl, rfl⟩
theorem dX12_reckoner_123 : vm_at cX12_reckoner 123 (.aload_n 0) 1 124 ∧ ((0 : Fin 4) : Nat) = 0 := ⟨⟨vm_row tbX12_reckoner 70 rfl, rfl⟩, rfl⟩
theorem dX12_reckoner_124 : vm_at cX12_reckoner 124 (.getfield 39) 3 127 := ⟨vm_row tbX12_reckoner 71 rfl, rfl⟩
theorem dX12_reckoner_127 : vm_at cX12_reckoner 127 (.iconst 1) 1 128 ∧ Int32.ofInt (1) = (1 : Int32) := ⟨⟨vm_row tbX12_reckoner 72 rfl, rfl⟩, z_iconst_1⟩
theorem dX12_reckoner_128 : vm_at cX12_reckoner 128 (.iconst 0) 1 129 ∧ Int32.ofInt (0) = (0 : Int32) := ⟨⟨vm_row tbX12_reckoner 73 rfl, rfl⟩, z_iconst_0⟩
theorem dX12_reckoner_129 : vm_at cX12_reckoner 129 (.bastore) 1 130 := ⟨vm_row tbX12_reckoner 74 rfl, rfl⟩
theorem dX12_reckoner_130 : vm_at cX12_reckoner 130 (.aload_n 0) 1 131 ∧ ((0 : Fin 4) : Nat) = 0 := ⟨⟨vm_row tbX12_reckoner 75 rfl, rfl⟩, rfl⟩
theorem dX12_reckoner_131 : vm_at cX12_reckoner 131 (.getfield 65) 3 134 := ⟨vm_row tbX12_reckoner 76 rfl, rfl⟩
theorem dX12_reckoner_134 : vm_at cX12_reckoner 134 (.ireturn) 1 135 := ⟨vm_row tbX12_reckoner 77 rfl, rfl⟩
def tlX12_fault : List (Nat × Instr × Nat) := [(0, .aload_n 0, 1), (1, .getfield 20, 3), (4, .ireturn, 1)]
theorem tbX12_fault : vm_chk cX12_fault tlX12_fault = true := by decide +kernel
theorem dX12_fault_0 : vm_at cX12_fault 0 (.aload_n 0) 1 1 ∧ ((0 : Fin 4) : Nat) = 0 := ⟨⟨vm_row tbX12_fault 0 rfl, rfl⟩, rfl⟩
theorem dX12_fault_1 : vm_at cX12_fault 1 (.getfield 20) 3 4 := ⟨vm_row tbX12_fault 1 rfl, rfl⟩
theorem dX12_fault_4 : vm_at cX12_fault 4 (.ireturn) 1 5 := ⟨vm_row tbX12_fault 2 rfl, rfl⟩
def tlX12_told : List (Nat × Instr × Nat) := [(0, .iload_n 1, 1), (1, .tableswitch 140 0 12 #[67, 72, 77, 82, 87, 92, 97, 102, 107, 112, 125, 130, 135], 67), (68, .aload_n 0, 1), (69, .getfield 7, 3), (72, .ireturn, 1), (73, .aload_n 0, 1), (74, .getfield 176, 3), (77, .ireturn, 1), (78, .aload_n 0, 1), (79, .getfield 179, 3), (82, .ireturn, 1), (83, .aload_n 0, 1), (84, .getfield 65, 3), (87, .ireturn, 1), (88, .aload_n 0, 1), (89, .getfield 182, 3), (92, .ireturn, 1), (93, .aload_n 0, 1), (94, .getfield 73, 3), (97, .ireturn, 1), (98, .aload_n 0, 1), (99, .getfield 197, 3), (102, .ireturn, 1), (103, .aload_n 0, 1), (104, .getfield 200, 3), (107, .ireturn, 1), (108, .aload_n 0, 1), (109, .getfield 203, 3), (112, .ireturn, 1), (113, .aload_n 0, 1), (114, .getfield 206, 3), (117, .ifCond .eq 7, 3), (120, .iconst 1, 1), (121, .goto 4, 3), (124, .iconst 0, 1), (125, .ireturn, 1), (126, .aload_n 0, 1), (127, .getfield 188, 3), (130, .ireturn, 1), (131, .aload_n 0, 1), (132, .getfield 191, 3), (135, .ireturn, 1), (136, .aload_n 0, 1), (137, .getfield 194, 3), (140, .ireturn, 1), (141, .ldc 72, 2), (143, .ireturn, 1)]
theorem tbX12_told : vm_chk cX12_told tlX12_told = true := by decide +kernel
theorem dX12_told_0 : vm_at cX12_told 0 (.iload_n 1) 1 1 ∧ ((1 : Fin 4) : Nat) = 1 := ⟨⟨vm_row tbX12_told 0 rfl, rfl⟩, rfl⟩
theorem dX12_told_1 : decode cX12_told 1 = .ok (.tableswitch 140 0 12 #[67, 72, 77, 82, 87, 92, 97, 102, 107, 112, 125, 130, 135], 67) := vm_row tbX12_told 1 rfl
theorem dX12_told_68 : vm_at cX12_told 68 (.aload_n 0) 1 69 ∧ ((0 : Fin 4) : Nat) = 0 := ⟨⟨vm_row tbX12_told 2 rfl, rfl⟩, rfl⟩
theorem dX12_told_69 : vm_at cX12_told 69 (.getfield 7) 3 72 := ⟨vm_row tbX12_told 3 rfl, rfl⟩
theorem dX12_told_72 : vm_at cX12_told 72 (.ireturn) 1 73 := ⟨vm_row tbX12_told 4 rfl, rfl⟩
theorem dX12_told_73 : vm_at cX12_told 73 (.aload_n 0) 1 74 ∧ ((0 : Fin 4) : Nat) = 0 := ⟨⟨vm_row tbX12_told 5 rfl, rfl⟩, rfl⟩
theorem dX12_told_74 : vm_at cX12_told 74 (.getfield 176) 3 77 := ⟨vm_row tbX12_told 6 rfl, rfl⟩
theorem dX12_told_77 : vm_at cX12_told 77 (.ireturn) 1 78 := ⟨vm_row tbX12_told 7 rfl, rfl⟩
theorem dX12_told_78 : vm_at cX12_told 78 (.aload_n 0) 1 79 ∧ ((0 : Fin 4) : Nat) = 0 := ⟨⟨vm_row tbX12_told 8 rfl, rfl⟩, rfl⟩
theorem dX12_told_79 : vm_at cX12_told 79 (.getfield 179) 3 82 := ⟨vm_row tbX12_told 9 rfl, rfl⟩
theorem dX12_told_82 : vm_at cX12_told 82 (.ireturn) 1 83 := ⟨vm_row tbX12_told 10 rfl, rfl⟩
theorem dX12_told_83 : vm_at cX12_told 83 (.aload_n 0) 1 84 ∧ ((0 : Fin 4) : Nat) = 0 := ⟨⟨vm_row tbX12_told 11 rfl, rfl⟩, rfl⟩
theorem dX12_told_84 : vm_at cX12_told 84 (.getfield 65) 3 87 := ⟨vm_row tbX12_told 12 rfl, rfl⟩
theorem dX12_told_87 : vm_at cX12_told 87 (.ireturn) 1 88 := ⟨vm_row tbX12_told 13 rfl, rfl⟩
theorem dX12_told_88 : vm_at cX12_told 88 (.aload_n 0) 1 89 ∧ ((0 : Fin 4) : Nat) = 0 := ⟨⟨vm_row tbX12_told 14 rfl, rfl⟩, rfl⟩
theorem dX12_told_89 : vm_at cX12_told 89 (.getfield 182) 3 92 := ⟨vm_row tbX12_told 15 rfl, rfl⟩
theorem dX12_told_92 : vm_at cX12_told 92 (.ireturn) 1 93 := ⟨vm_row tbX12_told 16 rfl, rfl⟩
theorem dX12_told_93 : vm_at cX12_told 93 (.aload_n 0) 1 94 ∧ ((0 : Fin 4) : Nat) = 0 := ⟨⟨vm_row tbX12_told 17 rfl, rfl⟩, rfl⟩
theorem dX12_told_94 : vm_at cX12_told 94 (.getfield 73) 3 97 := ⟨vm_row tbX12_told 18 rfl, rfl⟩
theorem dX12_told_97 : vm_at cX12_told 97 (.ireturn) 1 98 := ⟨vm_row tbX12_told 19 rfl, rfl⟩
theorem dX12_told_98 : vm_at cX12_told 98 (.aload_n 0) 1 99 ∧ ((0 : Fin 4) : Nat) = 0 := ⟨⟨vm_row tbX12_told 20 rfl, rfl⟩, rfl⟩
theorem dX12_told_99 : vm_at cX12_told 99 (.getfield 197) 3 102 := ⟨vm_row tbX12_told 21 rfl, rfl⟩
theorem dX12_told_102 : vm_at cX12_told 102 (.ireturn) 1 103 := ⟨vm_row tbX12_told 22 rfl, rfl⟩
theorem dX12_told_103 : vm_at cX12_told 103 (.aload_n 0) 1 104 ∧ ((0 : Fin 4) : Nat) = 0 := ⟨⟨vm_row tbX12_told 23 rfl, rfl⟩, rfl⟩
theorem dX12_told_104 : vm_at cX12_told 104 (.getfield 200) 3 107 := ⟨vm_row tbX12_told 24 rfl, rfl⟩
theorem dX12_told_107 : vm_at cX12_told 107 (.ireturn) 1 108 := ⟨vm_row tbX12_told 25 rfl, rfl⟩
theorem dX12_told_108 : vm_at cX12_told 108 (.aload_n 0) 1 109 ∧ ((0 : Fin 4) : Nat) = 0 := ⟨⟨vm_row tbX12_told 26 rfl, rfl⟩, rfl⟩
theorem dX12_told_109 : vm_at cX12_told 109 (.getfield 203) 3 112 := ⟨vm_row tbX12_told 27 rfl, rfl⟩
theorem dX12_told_112 : vm_at cX12_told 112 (.ireturn) 1 113 := ⟨vm_row tbX12_told 28 rfl, rfl⟩
theorem dX12_told_113 : vm_at cX12_told 113 (.aload_n 0) 1 114 ∧ ((0 : Fin 4) : Nat) = 0 := ⟨⟨vm_row tbX12_told 29 rfl, rfl⟩, rfl⟩
theorem dX12_told_114 : vm_at cX12_told 114 (.getfield 206) 3 117 := ⟨vm_row tbX12_told 30 rfl, rfl⟩
theorem dX12_told_117 : vm_br cX12_told 117 (.ifCond .eq 7) 3 120 (7) 124 := ⟨vm_row tbX12_told 31 rfl, rfl, rfl⟩
theorem dX12_told_120 : vm_at cX12_told 120 (.iconst 1) 1 121 ∧ Int32.ofInt (1) = (1 : Int32) := ⟨⟨vm_row tbX12_told 32 rfl, rfl⟩, z_iconst_1⟩
theorem dX12_told_121 : vm_br cX12_told 121 (.goto 4) 3 124 (4) 125 := ⟨vm_row tbX12_told 33 rfl, rfl, rfl⟩
theorem dX12_told_124 : vm_at cX12_told 124 (.iconst 0) 1 125 ∧ Int32.ofInt (0) = (0 : Int32) := ⟨⟨vm_row tbX12_told 34 rfl, rfl⟩, z_iconst_0⟩
theorem dX12_told_125 : vm_at cX12_told 125 (.ireturn) 1 126 := ⟨vm_row tbX12_told 35 rfl, rfl⟩
theorem dX12_told_126 : vm_at cX12_told 126 (.aload_n 0) 1 127 ∧ ((0 : Fin 4) : Nat) = 0 := ⟨⟨vm_row tbX12_told 36 rfl, rfl⟩, rfl⟩
theorem dX12_told_127 : vm_at cX12_told 127 (.getfield 188) 3 130 := ⟨vm_row tbX12_told 37 rfl, rfl⟩
theorem dX12_told_130 : vm_at cX12_told 130 (.ireturn) 1 131 := ⟨vm_row tbX12_told 38 rfl, rfl⟩
theorem dX12_told_131 : vm_at cX12_told 131 (.aload_n 0) 1 132 ∧ ((0 : Fin 4) : Nat) = 0 := ⟨⟨vm_row tbX12_told 39 rfl, rfl⟩, rfl⟩
theorem dX12_told_132 : vm_at cX12_told 132 (.getfield 191) 3 135 := ⟨vm_row tbX12_told 40 rfl, rfl⟩
theorem dX12_told_135 : vm_at cX12_told 135 (.ireturn) 1 136 := ⟨vm_row tbX12_told 41 rfl, rfl⟩
theorem dX12_told_136 : vm_at cX12_told 136 (.aload_n 0) 1 137 ∧ ((0 : Fin 4) : Nat) = 0 := ⟨⟨vm_row tbX12_told 42 rfl, rfl⟩, rfl⟩
theorem dX12_told_137 : vm_at cX12_told 137 (.getfield 194) 3 140 := ⟨vm_row tbX12_told 43 rfl, rfl⟩
theorem dX12_told_140 : vm_at cX12_told 140 (.ireturn) 1 141 := ⟨vm_row tbX12_told 44 rfl, rfl⟩
theorem dX12_told_141 : vm_at cX12_told 141 (.ldc 72) 2 143 := ⟨vm_row tbX12_told 45 rfl, rfl⟩
theorem dX12_told_143 : vm_at cX12_told 143 (.ireturn) 1 144 := ⟨vm_row tbX12_told 46 rfl, rfl⟩
def tlX12_key : List (Nat × Instr × Nat) := [(0, .iload_n 1, 1), (1, .iconst 0, 1), (2, .aload_n 0, 1), (3, .getfield 182, 3), (6, .iconst 1, 1), (7, .isub, 1), (8, .invokestatic 68, 3), (11, .ifCond .ne 6, 3), (14, .ldc 210, 2), (16, .ireturn, 1), (17, .iload_n 2, 1), (18, .iconst 0, 1), (19, .iconst 3, 1), (20, .invokestatic 68, 3), (23, .ifCond .eq 16, 3), (26, .aload_n 0, 1), (27, .getfield 13, 3), (30, .iconst 4, 1), (31, .iload_n 1, 1), (32, .imul, 1), (33, .iload_n 2, 1), (34, .iadd, 1), (35, .iaload, 1), (36, .goto 5, 3), (39, .ldc 72, 2), (41, .ireturn, 1)]
theorem tbX12_key : vm_chk cX12_key tlX12_key = true := by decide +kernel
theorem dX12_key_0 : vm_at cX12_key 0 (.iload_n 1) 1 1 ∧ ((1 : Fin 4) : Nat) = 1 := ⟨⟨vm_row tbX12_key 0 rfl, rfl⟩, rfl⟩
theorem dX12_key_1 : vm_at cX12_key 1 (.iconst 0) 1 2 ∧ Int32.ofInt (0) = (0 : Int32) := ⟨⟨vm_row tbX12_key 1 rfl, rfl⟩, z_iconst_0⟩
theorem dX12_key_2 : vm_at cX12_key 2 (.aload_n 0) 1 3 ∧ ((0 : Fin 4) : Nat) = 0 := ⟨⟨vm_row tbX12_key 2 rfl, rfl⟩, rfl⟩
theorem dX12_key_3 : vm_at cX12_key 3 (.getfield 182) 3 6 := ⟨vm_row tbX12_key 3 rfl, rfl⟩
theorem dX12_key_6 : vm_at cX12_key 6 (.iconst 1) 1 7 ∧ Int32.ofInt (1) = (1 : Int32) := ⟨⟨vm_row tbX12_key 4 rfl, rfl⟩, z_iconst_1⟩
theorem dX12_key_7 : vm_at cX12_key 7 (.isub) 1 8 := ⟨vm_row tbX12_key 5 rfl, rfl⟩
theorem dX12_key_8 : vm_at cX12_key 8 (.invokestatic 68) 3 11 := ⟨vm_row tbX12_key 6 rfl, rfl⟩
theorem dX12_key_11 : vm_br cX12_key 11 (.ifCond .ne 6) 3 14 (6) 17 := ⟨vm_row tbX12_key 7 rfl, rfl, rfl⟩
theorem dX12_key_14 : vm_at cX12_key 14 (.ldc 210) 2 16 := ⟨vm_row tbX12_key 8 rfl, rfl⟩
theorem dX12_key_16 : vm_at cX12_key 16 (.ireturn) 1 17 := ⟨vm_row tbX12_key 9 rfl, rfl⟩
theorem dX12_key_17 : vm_at cX12_key 17 (.iload_n 2) 1 18 ∧ ((2 : Fin 4) : Nat) = 2 := ⟨⟨vm_row tbX12_key 10 rfl, rfl⟩, rfl⟩
theorem dX12_key_18 : vm_at cX12_key 18 (.iconst 0) 1 19 ∧ Int32.ofInt (0) = (0 : Int32) := ⟨⟨vm_row tbX12_key 11 rfl, rfl⟩, z_iconst_0⟩
theorem dX12_key_19 : vm_at cX12_key 19 (.iconst 3) 1 20 ∧ Int32.ofInt (3) = (3 : Int32) := ⟨⟨vm_row tbX12_key 12 rfl, rfl⟩, z_iconst_3⟩
theorem dX12_key_20 : vm_at cX12_key 20 (.invokestatic 68) 3 23 := ⟨vm_row tbX12_key 13 rfl, rfl⟩
theorem dX12_key_23 : vm_br cX12_key 23 (.ifCond .eq 16) 3 26 (16) 39 := ⟨vm_row tbX12_key 14 rfl, rfl, rfl⟩
theorem dX12_key_26 : vm_at cX12_key 26 (.aload_n 0) 1 27 ∧ ((0 : Fin 4) : Nat) = 0 := ⟨⟨vm_row tbX12_key 15 rfl, rfl⟩, rfl⟩
theorem dX12_key_27 : vm_at cX12_key 27 (.getfield 13) 3 30 := ⟨vm_row tbX12_key 16 rfl, rfl⟩
theorem dX12_key_30 : vm_at cX12_key 30 (.iconst 4) 1 31 ∧ Int32.ofInt (4) = (4 : Int32) := ⟨⟨vm_row tbX12_key 17 rfl, rfl⟩, z_iconst_4⟩
theorem dX12_key_31 : vm_at cX12_key 31 (.iload_n 1) 1 32 ∧ ((1 : Fin 4) : Nat) = 1 := ⟨⟨vm_row tbX12_key 18 rfl, rfl⟩, rfl⟩
theorem dX12_key_32 : vm_at cX12_key 32 (.imul) 1 33 := ⟨vm_row tbX12_key 19 rfl, rfl⟩
theorem dX12_key_33 : vm_at cX12_key 33 (.iload_n 2) 1 34 ∧ ((2 : Fin 4) : Nat) = 2 := ⟨⟨vm_row tbX12_key 20 rfl, rfl⟩, rfl⟩
theorem dX12_key_34 : vm_at cX12_key 34 (.iadd) 1 35 := ⟨vm_row tbX12_key 21 rfl, rfl⟩
theorem dX12_key_35 : vm_at cX12_key 35 (.iaload) 1 36 := ⟨vm_row tbX12_key 22 rfl, rfl⟩
theorem dX12_key_36 : vm_br cX12_key 36 (.goto 5) 3 39 (5) 41 := ⟨vm_row tbX12_key 23 rfl, rfl, rfl⟩
theorem dX12_key_39 : vm_at cX12_key 39 (.ldc 72) 2 41 := ⟨vm_row tbX12_key 24 rfl, rfl⟩
theorem dX12_key_41 : vm_at cX12_key 41 (.ireturn) 1 42 := ⟨vm_row tbX12_key 25 rfl, rfl⟩
def tlX12_start : List (Nat × Instr × Nat) := [(0, .aload_n 0, 1), (1, .iconst 0, 1), (2, .putfield 197, 3), (5, .aload_n 0, 1), (6, .iconst 0, 1), (7, .putfield 200, 3), (10, .aload_n 0, 1), (11, .iconst 0, 1), (12, .putfield 203, 3), (15, .aload_n 0, 1), (16, .iconst 0, 1), (17, .putfield 206, 3), (20, .return_, 1)]
theorem tbX12_start : vm_chk cX12_start tlX12_start = true := by decide +kernel
theorem dX12_start_0 : vm_at cX12_start 0 (.aload_n 0) 1 1 ∧ ((0 : Fin 4) : Nat) = 0 := ⟨⟨vm_row tbX12_start 0 rfl, rfl⟩, rfl⟩
theorem dX12_start_1 : vm_at cX12_start 1 (.iconst 0) 1 2 ∧ Int32.ofInt (0) = (0 : Int32) := ⟨⟨vm_row tbX12_start 1 rfl, rfl⟩, z_iconst_0⟩
theorem dX12_start_2 : vm_at cX12_start 2 (.putfield 197) 3 5 := ⟨vm_row tbX12_start 2 rfl, rfl⟩
theorem dX12_start_5 : vm_at cX12_start 5 (.aload_n 0) 1 6 ∧ ((0 : Fin 4) : Nat) = 0 := ⟨⟨vm_row tbX12_start 3 rfl, rfl⟩, rfl⟩
theorem dX12_start_6 : vm_at cX12_start 6 (.iconst 0) 1 7 ∧ Int32.ofInt (0) = (0 : Int32) := ⟨⟨vm_row tbX12_start 4 rfl, rfl⟩, z_iconst_0⟩
theorem dX12_start_7 : vm_at cX12_start 7 (.putfield 200) 3 10 := ⟨vm_row tbX12_start 5 rfl, rfl⟩
theorem dX12_start_10 : vm_at cX12_start 10 (.aload_n 0) 1 11 ∧ ((0 : Fin 4) : Nat) = 0 := ⟨⟨vm_row tbX12_start 6 rfl, rfl⟩, rfl⟩
theorem dX12_start_11 : vm_at cX12_start 11 (.iconst 0) 1 12 ∧ Int32.ofInt (0) = (0 : Int32) := ⟨⟨vm_row tbX12_start 7 rfl, rfl⟩, z_iconst_0⟩
theorem dX12_start_12 : vm_at cX12_start 12 (.putfield 203) 3 15 := ⟨vm_row tbX12_start 8 rfl, rfl⟩
theorem dX12_start_15 : vm_at cX12_start 15 (.aload_n 0) 1 16 ∧ ((0 : Fin 4) : Nat) = 0 := ⟨⟨vm_row tbX12_start 9 rfl, rfl⟩, rfl⟩
theorem dX12_start_16 : vm_at cX12_start 16 (.iconst 0) 1 17 ∧ Int32.ofInt (0) = (0 : Int32) := ⟨⟨vm_row tbX12_start 10 rfl, rfl⟩, z_iconst_0⟩
theorem dX12_start_17 : vm_at cX12_start 17 (.putfield 206) 3 20 := ⟨vm_row tbX12_start 11 rfl, rfl⟩
theorem dX12_start_20 : vm_at cX12_start 20 (.return_) 1 21 := ⟨vm_row tbX12_start 12 rfl, rfl⟩
def tlX12_bound : List (Nat × Instr × Nat) := [(0, .aload_n 0, 1), (1, .getfield 7, 3), (4, .ifCond .ne 20, 3), (7, .iload_n 1, 1), (8, .aload_n 0, 1), (9, .getfield 65, 3), (12, .irem, 1), (13, .aload_n 0, 1), (14, .getfield 65, 3), (17, .iadd, 1), (18, .aload_n 0, 1), (19, .getfield 65, 3), (22, .irem, 1), (23, .ireturn, 1), (24, .iload_n 1, 1), (25, .ifCond .ge 7, 3), (28, .iconst 0, 1), (29, .goto 21, 3), (32, .iload_n 1, 1), (33, .aload_n 0, 1), (34, .getfield 65, 3), (37, .if_icmp .lt 12, 3), (40, .aload_n 0, 1), (41, .getfield 65, 3), (44, .iconst 1, 1), (45, .isub, 1), (46, .goto 4, 3), (49, .iload_n 1, 1), (50, .ireturn, 1)]
theorem tbX12_bound : vm_chk cX12_bound tlX12_bound = true := by decide +kernel
theorem dX12_bound_0 : vm_at cX12_bound 0 (.aload_n 0) 1 1 ∧ ((0 : Fin 4) : Nat) = 0 := ⟨⟨vm_row tbX12_bound 0 rfl, rfl⟩, rfl⟩
theorem dX12_bound_1 : vm_at cX12_bound 1 (.getfield 7) 3 4 := ⟨vm_row tbX12_bound 1 rfl, rfl⟩
theorem dX12_bound_4 : vm_br cX12_bound 4 (.ifCond .ne 20) 3 7 (20) 24 := ⟨vm_row tbX12_bound 2 rfl, rfl, rfl⟩
theorem dX12_bound_7 : vm_at cX12_bound 7 (.iload_n 1) 1 8 ∧ ((1 : Fin 4) : Nat) = 1 := ⟨⟨vm_row tbX12_bound 3 rfl, rfl⟩, rfl⟩
theorem dX12_bound_8 : vm_at cX12_bound 8 (.aload_n 0) 1 9 ∧ ((0 : Fin 4) : Nat) = 0 := ⟨⟨vm_row tbX12_bound 4 rfl, rfl⟩, rfl⟩
theorem dX12_bound_9 : vm_at cX12_bound 9 (.getfield 65) 3 12 := ⟨vm_row tbX12_bound 5 rfl, rfl⟩
theorem dX12_bound_12 : vm_at cX12_bound 12 (.irem) 1 13 := ⟨vm_row tbX12_bound 6 rfl, rfl⟩
theorem dX12_bound_13 : vm_at cX12_bound 13 (.aload_n 0) 1 14 ∧ ((0 : Fin 4) : Nat) = 0 := ⟨⟨vm_row tbX12_bound 7 rfl, rfl⟩, rfl⟩
theorem dX12_bound_14 : vm_at cX12_bound 14 (.getfield 65) 3 17 := ⟨vm_row tbX12_bound 8 rfl, rfl⟩
theorem dX12_bound_17 : vm_at cX12_bound 17 (.iadd) 1 18 := ⟨vm_row tbX12_bound 9 rfl, rfl⟩
theorem dX12_bound_18 : vm_at cX12_bound 18 (.aload_n 0) 1 19 ∧ ((0 : Fin 4) : Nat) = 0 := ⟨⟨vm_row tbX12_bound 10 rfl, rfl⟩, rfl⟩
theorem dX12_bound_19 : vm_at cX12_bound 19 (.getfield 65) 3 22 := ⟨vm_row tbX12_bound 11 rfl, rfl⟩
theorem dX12_bound_22 : vm_at cX12_bound 22 (.irem) 1 23 := ⟨vm_row tbX12_bound 12 rfl, rfl⟩
theorem dX12_bound_23 : vm_at cX12_bound 23 (.ireturn) 1 24 := ⟨vm_row tbX12_bound 13 rfl, rfl⟩
theorem dX12_bound_24 : vm_at cX12_bound 24 (.iload_n 1) 1 25 ∧ ((1 : Fin 4) : Nat) = 1 := ⟨⟨vm_row tbX12_bound 14 rfl, rfl⟩, rfl⟩
theorem dX12_bound_25 : vm_br cX12_bound 25 (.ifCond .ge 7) 3 28 (7) 32 := ⟨vm_row tbX12_bound 15 rfl, rfl, rfl⟩
theorem dX12_bound_28 : vm_at cX12_bound 28 (.iconst 0) 1 29 ∧ Int32.ofInt (0) = (0 : Int32) := ⟨⟨vm_row tbX12_bound 16 rfl, rfl⟩, z_iconst_0⟩
theorem dX12_bound_29 : vm_br cX12_bound 29 (.goto 21) 3 32 (21) 50 := ⟨vm_row tbX12_bound 17 rfl, rfl, rfl⟩
theorem dX12_bound_32 : vm_at cX12_bound 32 (.iload_n 1) 1 33 ∧ ((1 : Fin 4) : Nat) = 1 := ⟨⟨vm_row tbX12_bound 18 rfl, rfl⟩, rfl⟩
theorem dX12_bound_33 : vm_at cX12_bound 33 (.aload_n 0) 1 34 ∧ ((0 : Fin 4) : Nat) = 0 := ⟨⟨vm_row tbX12_bound 19 rfl, rfl⟩, rfl⟩
theorem dX12_bound_34 : vm_at cX12_bound 34 (.getfield 65) 3 37 := ⟨vm_row tbX12_bound 20 rfl, rfl⟩
theorem dX12_bound_37 : vm_br cX12_bound 37 (.if_icmp .lt 12) 3 40 (12) 49 := ⟨vm_row tbX12_bound 21 rfl, rfl, rfl⟩
theorem dX12_bound_40 : vm_at cX12_bound 40 (.aload_n 0) 1 41 ∧ ((0 : Fin 4) : Nat) = 0 := ⟨⟨vm_row tbX12_bound 22 rfl, rfl⟩, rfl⟩
theorem dX12_bound_41 : vm_at cX12_bound 41 (.getfield 65) 3 44 := ⟨vm_row tbX12_bound 23 rfl, rfl⟩
theorem dX12_bound_44 : vm_at cX12_bound 44 (.iconst 1) 1 45 ∧ Int32.ofInt (1) = (1 : Int32) := ⟨⟨vm_row tbX12_bound 24 rfl, rfl⟩, z_iconst_1⟩
theorem dX12_bound_45 : vm_at cX12_bound 45 (.isub) 1 46 := ⟨vm_row tbX12_bound 25 rfl, rfl⟩
theorem dX12_bound_46 : vm_br cX12_bound 46 (.goto 4) 3 49 (4) 50 := ⟨vm_row tbX12_bound 26 rfl, rfl, rfl⟩
theorem dX12_bound_49 : vm_at cX12_bound 49 (.iload_n 1) 1 50 ∧ ((1 : Fin 4) : Nat) = 1 := ⟨⟨vm_row tbX12_bound 27 rfl, rfl⟩, rfl⟩
theorem dX12_bound_50 : vm_at cX12_bound 50 (.ireturn) 1 51 := ⟨vm_row tbX12_bound 28 rfl, rfl⟩
def tlX12_reckon : List (Nat × Instr × Nat) := [(0, .aload_n 0, 1), (1, .iload_n 1, 1), (2, .iconst 1, 1), (3, .if_icmp .ne 9, 3), (6, .iload_n 2, 1), (7, .iload_n 3, 1), (8, .iadd, 1), (9, .goto 17, 3), (12, .iload_n 1, 1), (13, .iconst 2, 1), (14, .if_icmp .ne 9, 3), (17, .iload_n 2, 1), (18, .iload_n 3, 1), (19, .isub, 1), (20, .goto 6, 3), (23, .iload_n 2, 1), (24, .iload_n 3, 1), (25, .imul, 1), (26, .invokevirtual 211, 3), (29, .ireturn, 1)]
theorem tbX12_reckon : vm_chk cX12_reckon tlX12_reckon = true := by decide +kernel
theorem dX12_reckon_0 : vm_at cX12_reckon 0 (.aload_n 0) 1 1 ∧ ((0 : Fin 4) : Nat) = 0 := ⟨⟨vm_row tbX12_reckon 0 rfl, rfl⟩, rfl⟩
theorem dX12_reckon_1 : vm_at cX12_reckon 1 (.iload_n 1) 1 2 ∧ ((1 : Fin 4) : Nat) = 1 := ⟨⟨vm_row tbX12_reckon 1 rfl, rfl⟩, rfl⟩
theorem dX12_reckon_2 : vm_at cX12_reckon 2 (.iconst 1) 1 3 ∧ Int32.ofInt (1) = (1 : Int32) := ⟨⟨vm_row tbX12_reckon 2 rfl, rfl⟩, z_iconst_1⟩
theorem dX12_reckon_3 : vm_br cX12_reckon 3 (.if_icmp .ne 9) 3 6 (9) 12 := ⟨vm_row tbX12_reckon 3 rfl, rfl, rfl⟩
theorem dX12_reckon_6 : vm_at cX12_reckon 6 (.iload_n 2) 1 7 ∧ ((2 : Fin 4) : Nat) = 2 := ⟨⟨vm_row tbX12_reckon 4 rfl, rfl⟩, rfl⟩
theorem dX12_reckon_7 : vm_at cX12_reckon 7 (.iload_n 3) 1 8 ∧ ((3 : Fin 4) : Nat) = 3 := ⟨⟨vm_row tbX12_reckon 5 rfl, rfl⟩, rfl⟩
theorem dX12_reckon_8 : vm_at cX12_reckon 8 (.iadd) 1 9 := ⟨vm_row tbX12_reckon 6 rfl, rfl⟩
theorem dX12_reckon_9 : vm_br cX12_reckon 9 (.goto 17) 3 12 (17) 26 := ⟨vm_row tbX12_reckon 7 rfl, rfl, rfl⟩
theorem dX12_reckon_12 : vm_at cX12_reckon 12 (.iload_n 1) 1 13 ∧ ((1 : Fin 4) : Nat) = 1 := ⟨⟨vm_row tbX12_reckon 8 rfl, rfl⟩, rfl⟩
theorem dX12_reckon_13 : vm_at cX12_reckon 13 (.iconst 2) 1 14 ∧ Int32.ofInt (2) = (2 : Int32) := ⟨⟨vm_row tbX12_reckon 9 rfl, rfl⟩, z_iconst_2⟩
theorem dX12_reckon_14 : vm_br cX12_reckon 14 (.if_icmp .ne 9) 3 17 (9) 23 := ⟨vm_row tbX12_reckon 10 rfl, rfl, rfl⟩
theorem dX12_reckon_17 : vm_at cX12_reckon 17 (.iload_n 2) 1 18 ∧ ((2 : Fin 4) : Nat) = 2 := ⟨⟨vm_row tbX12_reckon 11 rfl, rfl⟩, rfl⟩
theorem dX12_reckon_18 : vm_at cX12_reckon 18 (.iload_n 3) 1 19 ∧ ((3 : Fin 4) : Nat) = 3 := ⟨⟨vm_row tbX12_reckon 12 rfl, rfl⟩, rfl⟩
theorem dX12_reckon_19 : vm_at cX12_reckon 19 (.isub) 1 20 := ⟨vm_row tbX12_reckon 13 rfl, rfl⟩
theorem dX12_reckon_20 : vm_br cX12_reckon 20 (.goto 6) 3 23 (6) 26 := ⟨vm_row tbX12_reckon 14 rfl, rfl, rfl⟩
theorem dX12_reckon_23 : vm_at cX12_reckon 23 (.iload_n 2) 1 24 ∧ ((2 : Fin 4) : Nat) = 2 := ⟨⟨vm_row tbX12_reckon 15 rfl, rfl⟩, rfl⟩
theorem dX12_reckon_24 : vm_at cX12_reckon 24 (.iload_n 3) 1 25 ∧ ((3 : Fin 4) : Nat) = 3 := ⟨⟨vm_row tbX12_reckon 16 rfl, rfl⟩, rfl⟩
theorem dX12_reckon_25 : vm_at cX12_reckon 25 (.imul) 1 26 := ⟨vm_row tbX12_reckon 17 rfl, rfl⟩
theorem dX12_reckon_26 : vm_at cX12_reckon 26 (.invokevirtual 211) 3 29 := ⟨vm_row tbX12_reckon 18 rfl, rfl⟩
theorem dX12_reckon_29 : vm_at cX12_reckon 29 (.ireturn) 1 30 := ⟨vm_row tbX12_reckon 19 rfl, rfl⟩
def tlX12_figure : List (Nat × Instr × Nat) := [(0, .aload_n 0, 1), (1, .getfield 197, 3), (4, .aload_n 0, 1), (5, .getfield 176, 3), (8, .imul, 1), (9, .iload_n 1, 1), (10, .iadd, 1), (11, .istore_n 2, 1), (12, .aload_n 0, 1), (13, .getfield 206, 3), (16, .ifCond .ne 11, 3), (19, .aload_n 0, 1), (20, .iload_n 1, 1), (21, .putfield 197, 3), (24, .goto 43, 3), (27, .aload_n 0, 1), (28, .getfield 7, 3), (31, .ifCond .ne 16, 3), (34, .aload_n 0, 1), (35, .iload_n 2, 1), (36, .aload_n 0, 1), (37, .getfield 65, 3), (40, .irem, 1), (41, .putfield 197, 3), (44, .goto 23, 3), (47, .aload_n 0, 1), (48, .iload_n 2, 1), (49, .aload_n 0, 1), (50, .getfield 65, 3), (53, .if_icmp .lt 10, 3), (56, .aload_n 0, 1), (57, .getfield 197, 3), (60, .goto 4, 3), (63, .iload_n 2, 1), (64, .putfield 197, 3), (67, .aload_n 0, 1), (68, .iconst 1, 1), (69, .putfield 206, 3), (72, .return_, 1)]
theorem tbX12_figure : vm_chk cX12_figure tlX12_figure = true := by decide +kernel
theorem dX12_figure_0 : vm_at cX12_figure 0 (.aload_n 0) 1 1 ∧ ((0 : Fin 4) : Nat) = 0 := ⟨⟨vm_row tbX12_figure 0 rfl, rfl⟩, rfl⟩
theorem dX12_figure_1 : vm_at cX12_figure 1 (.getfield 197) 3 4 := ⟨vm_row tbX12_figure 1 rfl, rfl⟩
theorem dX12_figure_4 : vm_at cX12_figure 4 (.aload_n 0) 1 5 ∧ ((0 : Fin 4) : Nat) = 0 := ⟨⟨vm_row tbX12_figure 2 rfl, rfl⟩, rfl⟩
theorem dX12_figure_5 : vm_at cX12_figure 5 (.getfield 176) 3 8 := ⟨vm_row tbX12_figure 3 rfl, rfl⟩
theorem dX12_figure_8 : vm_at cX12_figure 8 (.imul) 1 9 := ⟨vm_row tbX12_figure 4 rfl, rfl⟩
theorem dX12_figure_9 : vm_at cX12_figure 9 (.iload_n 1) 1 10 ∧ ((1 : Fin 4) : Nat) = 1 := ⟨⟨vm_row tbX12_figure 5 rfl, rfl⟩, rfl⟩
theorem dX12_figure_10 : vm_at cX12_figure 10 (.iadd) 1 11 := ⟨vm_row tbX12_figure 6 rfl, rfl⟩
theorem dX12_figure_11 : vm_at cX12_figure 11 (.istore_n 2) 1 12 ∧ ((2 : Fin 4) : Nat) = 2 := ⟨⟨vm_row tbX12_figure 7 rfl, rfl⟩, rfl⟩
theorem dX12_figure_12 : vm_at cX12_figure 12 (.aload_n 0) 1 13 ∧ ((0 : Fin 4) : Nat) = 0 := ⟨⟨vm_row tbX12_figure 8 rfl, rfl⟩, rfl⟩
theorem dX12_figure_13 : vm_at cX12_figure 13 (.getfield 206) 3 16 := ⟨vm_row tbX12_figure 9 rfl, rfl⟩
theorem dX12_figure_16 : vm_br cX12_figure 16 (.ifCond .ne 11) 3 19 (11) 27 := ⟨vm_row tbX12_figure 10 rfl, rfl, rfl⟩
theorem dX12_figure_19 : vm_at cX12_figure 19 (.aload_n 0) 1 20 ∧ ((0 : Fin 4) : Nat) = 0 := ⟨⟨vm_row tbX12_figure 11 rfl, rfl⟩, rfl⟩
theorem dX12_figure_20 : vm_at cX12_figure 20 (.iload_n 1) 1 21 ∧ ((1 : Fin 4) : Nat) = 1 := ⟨⟨vm_row tbX12_figure 12 rfl, rfl⟩, rfl⟩
theorem dX12_figure_21 : vm_at cX12_figure 21 (.putfield 197) 3 24 := ⟨vm_row tbX12_figure 13 rfl, rfl⟩
theorem dX12_figure_24 : vm_br cX12_figure 24 (.goto 43) 3 27 (43) 67 := ⟨vm_row tbX12_figure 14 rfl, rfl, rfl⟩
theorem dX12_figure_27 : vm_at cX12_figure 27 (.aload_n 0) 1 28 ∧ ((0 : Fin 4) : Nat) = 0 := ⟨⟨vm_row tbX12_figure 15 rfl, rfl⟩, rfl⟩
theorem dX12_figure_28 : vm_at cX12_figure 28 (.getfield 7) 3 31 := ⟨vm_row tbX12_figure 16 rfl, rfl⟩
theorem dX12_figure_31 : vm_br cX12_figure 31 (.ifCond .ne 16) 3 34 (16) 47 := ⟨vm_row tbX12_figure 17 rfl, rfl, rfl⟩
theorem dX12_figure_34 : vm_at cX12_figure 34 (.aload_n 0) 1 35 ∧ ((0 : Fin 4) : Nat) = 0 := ⟨⟨vm_row tbX12_figure 18 rfl, rfl⟩, rfl⟩
theorem dX12_figure_35 : vm_at cX12_figure 35 (.iload_n 2) 1 36 ∧ ((2 : Fin 4) : Nat) = 2 := ⟨⟨vm_row tbX12_figure 19 rfl, rfl⟩, rfl⟩
theorem dX12_figure_36 : vm_at cX12_figure 36 (.aload_n 0) 1 37 ∧ ((0 : Fin 4) : Nat) = 0 := ⟨⟨vm_row tbX12_figure 20 rfl, rfl⟩, rfl⟩
theorem dX12_figure_37 : vm_at cX12_figure 37 (.getfield 65) 3 40 := ⟨vm_row tbX12_figure 21 rfl, rfl⟩
theorem dX12_figure_40 : vm_at cX12_figure 40 (.irem) 1 41 := ⟨vm_row tbX12_figure 22 rfl, rfl⟩
theorem dX12_figure_41 : vm_at cX12_figure 41 (.putfield 197) 3 44 := ⟨vm_row tbX12_figure 23 rfl, rfl⟩
theorem dX12_figure_44 : vm_br cX12_figure 44 (.goto 23) 3 47 (23) 67 := ⟨vm_row tbX12_figure 24 rfl, rfl, rfl⟩
theorem dX12_figure_47 : vm_at cX12_figure 47 (.aload_n 0) 1 48 ∧ ((0 : Fin 4) : Nat) = 0 := ⟨⟨vm_row tbX12_figure 25 rfl, rfl⟩, rfl⟩
theorem dX12_figure_48 : vm_at cX12_figure 48 (.iload_n 2) 1 49 ∧ ((2 : Fin 4) : Nat) = 2 := ⟨⟨vm_row tbX12_figure 26 rfl, rfl⟩, rfl⟩
theorem dX12_figure_49 : vm_at cX12_figure 49 (.aload_n 0) 1 50 ∧ ((0 : Fin 4) : Nat) = 0 := ⟨⟨vm_row tbX12_figure 27 rfl, rfl⟩, rfl⟩
theorem dX12_figure_50 : vm_at cX12_figure 50 (.getfield 65) 3 53 := ⟨vm_row tbX12_figure 28 rfl, rfl⟩
theorem dX12_figure_53 : vm_br cX12_figure 53 (.if_icmp .lt 10) 3 56 (10) 63 := ⟨vm_row tbX12_figure 29 rfl, rfl, rfl⟩
theorem dX12_figure_56 : vm_at cX12_figure 56 (.aload_n 0) 1 57 ∧ ((0 : Fin 4) : Nat) = 0 := ⟨⟨vm_row tbX12_figure 30 rfl, rfl⟩, rfl⟩
theorem dX12_figure_57 : vm_at cX12_figure 57 (.getfield 197) 3 60 := ⟨vm_row tbX12_figure 31 rfl, rfl⟩
theorem dX12_figure_60 : vm_br cX12_figure 60 (.goto 4) 3 63 (4) 64 := ⟨vm_row tbX12_figure 32 rfl, rfl, rfl⟩
theorem dX12_figure_63 : vm_at cX12_figure 63 (.iload_n 2) 1 64 ∧ ((2 : Fin 4) : Nat) = 2 := ⟨⟨vm_row tbX12_figure 33 rfl, rfl⟩, rfl⟩
theorem dX12_figure_64 : vm_at cX12_figure 64 (.putfield 197) 3 67 := ⟨vm_row tbX12_figure 34 rfl, rfl⟩
theorem dX12_figure_67 : vm_at cX12_figure 67 (.aload_n 0) 1 68 ∧ ((0 : Fin 4) : Nat) = 0 := ⟨⟨vm_row tbX12_figure 35 rfl, rfl⟩, rfl⟩
theorem dX12_figure_68 : vm_at cX12_figure 68 (.iconst 1) 1 69 ∧ Int32.ofInt (1) = (1 : Int32) := ⟨⟨vm_row tbX12_figure 36 rfl, rfl⟩, z_iconst_1⟩
theorem dX12_figure_69 : vm_at cX12_figure 69 (.putfield 206) 3 72 := ⟨vm_row tbX12_figure 37 rfl, rfl⟩
theorem dX12_figure_72 : vm_at cX12_figure 72 (.return_) 1 73 := ⟨vm_row tbX12_figure 38 rfl, rfl⟩
def tlX12_doStroke : List (Nat × Instr × Nat) := [(0, .aload_n 0, 1), (1, .getfield 13, 3), (4, .iconst 4, 1), (5, .iload_n 1, 1), (6, .imul, 1), (7, .iaload, 1), (8, .istore_n 2, 1), (9, .iload_n 2, 1), (10, .tableswitch 220 0 6 #[42, 59, 59, 59, 121, 173, 180], 42), (52, .aload_n 0, 1), (53, .aload_n 0, 1), (54, .getfield 13, 3), (57, .iconst 4, 1), (58, .iload_n 1, 1), (59, .imul, 1), (60, .iconst 2, 1), (61, .iadd, 1), (62, .iaload, 1), (63, .invokevirtual 215, 3), (66, .goto 192, 3), (69, .aload_n 0, 1), (70, .aload_n 0, 1), (71, .getfield 200, 3), (74, .ifCond .le 29, 3), (77, .aload_n 0, 1), (78, .getfield 206, 3), (81, .ifCond .eq 22, 3), (84, .aload_n 0, 1), (85, .aload_n 0, 1), (86, .getfield 200, 3), (89, .aload_n 0, 1), (90, .getfield 203, 3), (93, .aload_n 0, 1), (94, .getfield 197, 3), (97, .invokevirtual 219, 3), (100, .goto 7, 3), (103, .aload_n 0, 1), (104, .getfield 197, 3), (107, .putfield 197, 3), (110, .aload_n 0, 1), (111, .aload_n 0, 1), (112, .getfield 197, 3), (115, .putfield 203, 3), (118, .aload_n 0, 1), (119, .iload_n 2, 1), (120, .putfield 200, 3), (123, .aload_n 0, 1), (124, .iconst 0, 1), (125, .putfield 206, 3), (128, .goto 130, 3), (131, .aload_n 0, 1), (132, .aload_n 0, 1), (133, .getfield 200, 3), (136, .ifCond .le 22, 3), (139, .aload_n 0, 1), (140, .aload_n 0, 1), (141, .getfield 200, 3), (144, .aload_n 0, 1), (145, .getfield 203, 3), (148, .aload_n 0, 1), (149, .getfield 197, 3), (152, .invokevirtual 219, 3), (155, .goto 7, 3), (158, .aload_n 0, 1), (159, .getfield 197, 3), (162, .putfield 197, 3), (165, .aload_n 0, 1), (166, .iconst 0, 1), (167, .putfield 203, 3), (170, .aload_n 0, 1), (171, .iconst 0, 1), (172, .putfield 200, 3), (175, .aload_n 0, 1), (176, .iconst 0, 1), (177, .putfield 206, 3), (180, .goto 78, 3), (183, .aload_n 0, 1), (184, .invokevirtual 185, 3), (187, .goto 71, 3), (190, .aload_n 0, 1), (191, .aload_n 0, 1), (192, .aload_n 0, 1), (193, .getfield 13, 3), (196, .iconst 4, 1), (197, .iload_n 1, 1), (198, .imul, 1), (199, .iconst 3, 1), (200, .iadd, 1), (201, .iaload, 1), (202, .aload_n 0, 1), (203, .getfield 197, 3), (206, .aload_n 0, 1), (207, .getfield 13, 3), (210, .iconst 4, 1), (211, .iload_n 1, 1), (212, .imul, 1), (213, .iconst 2, 1), (214, .iadd, 1), (215, .iaload, 1), (216, .invokevirtual 219, 3), (219, .putfield 197, 3), (222, .aload_n 0, 1), (223, .iconst 0, 1), (224, .putfield 206, 3), (227, .goto 31, 3), (230, .aload_n 0, 1), (231, .aload_n 0, 1), (232, .getfield 13, 3), (235, .iconst 4, 1), (236, .iload_n 1, 1), (237, .imul, 1), (238, .iconst 2, 1), (239, .iadd, 1), (240, .iaload, 1), (241, .invokevirtual 215, 3), (244, .aload_n 0, 1), (245, .aload_n 0, 1), (246, .getfield 13, 3), (249, .iconst 4, 1), (250, .iload_n 1, 1), (251, .imul, 1), (252, .iconst 3, 1), (253, .iadd, 1), (254, .iaload, 1), (255, .invokevirtual 215, 3), (258, .return_, 1)]
theorem tbX12_doStroke : vm_chk cX12_doStroke tlX12_doStroke = true := by decide +kernel
theorem dX12_doStroke_0 : vm_at cX12_doStroke 0 (.aload_n 0) 1 1 ∧ ((0 : Fin 4) : Nat) = 0 := ⟨⟨vm_row tbX12_doStroke 0 rfl, rfl⟩, rfl⟩
theorem dX12_doStroke_1 : vm_at cX12_doStroke 1 (.getfield 13) 3 4 := ⟨vm_row tbX12_doStroke 1 rfl, rfl⟩
theorem dX12_doStroke_4 : vm_at cX12_doStroke 4 (.iconst 4) 1 5 ∧ Int32.ofInt (4) = (4 : Int32) := ⟨⟨vm_row tbX12_doStroke 2 rfl, rfl⟩, z_iconst_4⟩
theorem dX12_doStroke_5 : vm_at cX12_doStroke 5 (.iload_n 1) 1 6 ∧ ((1 : Fin 4) : Nat) = 1 := ⟨⟨vm_row tbX12_doStroke 3 rfl, rfl⟩, rfl⟩
theorem dX12_doStroke_6 : vm_at cX12_doStroke 6 (.imul) 1 7 := ⟨vm_row tbX12_doStroke 4 rfl, rfl⟩
theorem dX12_doStroke_7 : vm_at cX12_doStroke 7 (.iaload) 1 8 := ⟨vm_row tbX12_doStroke 5 rfl, rfl⟩
theorem dX12_doStroke_8 : vm_at cX12_doStroke 8 (.istore_n 2) 1 9 ∧ ((2 : Fin 4) : Nat) = 2 := ⟨⟨vm_row tbX12_doStroke 6 rfl, rfl⟩, rfl⟩
theorem dX12_doStroke_9 : vm_at cX12_doStroke 9 (.iload_n 2) 1 10 ∧ ((2 : Fin 4) : Nat) = 2 := ⟨⟨vm_row tbX12_doStroke 7 rfl, rfl⟩, rfl⟩
theorem dX12_doStroke_10 : decode cX12_doStroke 10 = .ok (.tableswitch 220 0 6 #[42, 59, 59, 59, 121, 173, 180], 42) := vm_row tbX12_doStroke 8 rfl
theorem dX12_doStroke_52 : vm_at cX12_doStroke 52 (.aload_n 0) 1 53 ∧ ((0 : Fin 4) : Nat) = 0 := ⟨⟨vm_row tbX12_doStroke 9 rfl, rfl⟩, rfl⟩
theorem dX12_doStroke_53 : vm_at cX12_doStroke 53 (.aload_n 0) 1 54 ∧ ((0 : Fin 4) : Nat) = 0 := ⟨⟨vm_row tbX12_doStroke 10 rfl, rfl⟩, rfl⟩
theorem dX12_doStroke_54 : vm_at cX12_doStroke 54 (.getfield 13) 3 57 := ⟨vm_row tbX12_doStroke 11 rfl, rfl⟩
theorem dX12_doStroke_57 : vm_at cX12_doStroke 57 (.iconst 4) 1 58 ∧ Int32.ofInt (4) = (4 : Int32) := ⟨⟨vm_row tbX12_doStroke 12 rfl, rfl⟩, z_iconst_4⟩
theorem dX12_doStroke_58 : vm_at cX12_doStroke 58 (.iload_n 1) 1 59 ∧ ((1 : Fin 4) : Nat) = 1 := ⟨⟨vm_row tbX12_doStroke 13 rfl, rfl⟩, rfl⟩
theorem dX12_doStroke_59 : vm_at cX12_doStroke 59 (.imul) 1 60 := ⟨vm_row tbX12_doStroke 14 rfl, rfl⟩
theorem dX12_doStroke_60 : vm_at cX12_doStroke 60 (.iconst 2) 1 61 ∧ Int32.ofInt (2) = (2 : Int32) := ⟨⟨vm_row tbX12_doStroke 15 rfl, rfl⟩, z_iconst_2⟩
theorem dX12_doStroke_61 : vm_at cX12_doStroke 61 (.iadd) 1 62 := ⟨vm_row tbX12_doStroke 16 rfl, rfl⟩
theorem dX12_doStroke_62 : vm_at cX12_doStroke 62 (.iaload) 1 63 := ⟨vm_row tbX12_doStroke 17 rfl, rfl⟩
theorem dX12_doStroke_63 : vm_at cX12_doStroke 63 (.invokevirtual 215) 3 66 := ⟨vm_row tbX12_doStroke 18 rfl, rfl⟩
theorem dX12_doStroke_66 : vm_br cX12_doStroke 66 (.goto 192) 3 69 (192) 258 := ⟨vm_row tbX12_doStroke 19 rfl, rfl, rfl⟩
theorem dX12_doStroke_69 : vm_at cX12_doStroke 69 (.aload_n 0) 1 70 ∧ ((0 : Fin 4) : Nat) = 0 := ⟨⟨vm_row tbX12_doStroke 20 rfl, rfl⟩, rfl⟩
theorem dX12_doStroke_70 : vm_at cX12_doStroke 70 (.aload_n 0) 1 71 ∧ ((0 : Fin 4) : Nat) = 0 := ⟨⟨vm_row tbX12_doStroke 21 rfl, rfl⟩, rfl⟩
theorem dX12_doStroke_71 : vm_at cX12_doStroke 71 (.getfield 200) 3 74 := ⟨vm_row tbX12_doStroke 22 rfl, rfl⟩
theorem dX12_doStroke_74 : vm_br cX12_doStroke 74 (.ifCond .le 29) 3 77 (29) 103 := ⟨vm_row tbX12_doStroke 23 rfl, rfl, rfl⟩
theorem dX12_doStroke_77 : vm_at cX12_doStroke 77 (.aload_n 0) 1 78 ∧ ((0 : Fin 4) : Nat) = 0 := ⟨⟨vm_row tbX12_doStroke 24 rfl, rfl⟩, rfl⟩
theorem dX12_doStroke_78 : vm_at cX12_doStroke 78 (.getfield 206) 3 81 := ⟨vm_row tbX12_doStroke 25 rfl, rfl⟩
theorem dX12_doStroke_81 : vm_br cX12_doStroke 81 (.ifCond .eq 22) 3 84 (22) 103 := ⟨vm_row tbX12_doStroke 26 rfl, rfl, rfl⟩
theorem dX12_doStroke_84 : vm_at cX12_doStroke 84 (.aload_n 0) 1 85 ∧ ((0 : Fin 4) : Nat) = 0 := ⟨⟨vm_row tbX12_doStroke 27 rfl, rfl⟩, rfl⟩
theorem dX12_doStroke_85 : vm_at cX12_doStroke 85 (.aload_n 0) 1 86 ∧ ((0 : Fin 4) : Nat) = 0 := ⟨⟨vm_row tbX12_doStroke 28 rfl, rfl⟩, rfl⟩
theorem dX12_doStroke_86 : vm_at cX12_doStroke 86 (.getfield 200) 3 89 := ⟨vm_row tbX12_doStroke 29 rfl, rfl⟩
theorem dX12_doStroke_89 : vm_at cX12_doStroke 89 (.aload_n 0) 1 90 ∧ ((0 : Fin 4) : Nat) = 0 := ⟨⟨vm_row tbX12_doStroke 30 rfl, rfl⟩, rfl⟩
theorem dX12_doStroke_90 : vm_at cX12_doStroke 90 (.getfield 203) 3 93 := ⟨vm_row tbX12_doStroke 31 rfl, rfl⟩
theorem dX12_doStroke_93 : vm_at cX12_doStroke 93 (.aload_n 0) 1 94 ∧ ((0 : Fin 4) : Nat) = 0 := ⟨⟨vm_row tbX12_doStroke 32 rfl, rfl⟩, rfl⟩
theorem dX12_doStroke_94 : vm_at cX12_doStroke 94 (.getfield 197) 3 97 := ⟨vm_row tbX12_doStroke 33 rfl, rfl⟩
theorem dX12_doStroke_97 : vm_at cX12_doStroke 97 (.invokevirtual 219) 3 100 := ⟨vm_row tbX12_doStroke 34 rfl, rfl⟩
theorem dX12_doStroke_100 : vm_br cX12_doStroke 100 (.goto 7) 3 103 (7) 107 := ⟨vm_row tbX12_doStroke 35 rfl, rfl, rfl⟩
theorem dX12_doStroke_103 : vm_at cX12_doStroke 103 (.aload_n 0) 1 104 ∧ ((0 : Fin 4) : Nat) = 0 := ⟨⟨vm_row tbX12_doStroke 36 rfl, rfl⟩, rfl⟩
theorem dX12_doStroke_104 : vm_at cX12_doStroke 104 (.getfield 197) 3 107 := ⟨vm_row tbX12_doStroke 37 rfl, rfl⟩
theorem dX12_doStroke_107 : vm_at cX12_doStroke 107 (.putfield 197) 3 110 := ⟨vm_row tbX12_doStroke 38 rfl, rfl⟩
theorem dX12_doStroke_110 : vm_at cX12_doStroke 110 (.aload_n 0) 1 111 ∧ ((0 : Fin 4) : Nat) = 0 := ⟨⟨vm_row tbX12_doStroke 39 rfl, rfl⟩, rfl⟩
theorem dX12_doStroke_111 : vm_at cX12_doStroke 111 (.aload_n 0) 1 112 ∧ ((0 : Fin 4) : Nat) = 0 := ⟨⟨vm_row tbX12_doStroke 40 rfl, rfl⟩, rfl⟩
theorem dX12_doStroke_112 : vm_at cX12_doStroke 112 (.getfield 197) 3 115 := ⟨vm_row tbX12_doStroke 41 rfl, rfl⟩
theorem dX12_doStroke_115 : vm_at cX12_doStroke 115 (.putfield 203) 3 118 := ⟨vm_row tbX12_doStroke 42 rfl, rfl⟩
theorem dX12_doStroke_118 : vm_at cX12_doStroke 118 (.aload_n 0) 1 119 ∧ ((0 : Fin 4) : Nat) = 0 := ⟨⟨vm_row tbX12_doStroke 43 rfl, rfl⟩, rfl⟩
theorem dX12_doStroke_119 : vm_at cX12_doStroke 119 (.iload_n 2) 1 120 ∧ ((2 : Fin 4) : Nat) = 2 := ⟨⟨vm_row tbX12_doStroke 44 rfl, rfl⟩, rfl⟩
theorem dX12_doStroke_120 : vm_at cX12_doStroke 120 (.putfield 200) 3 123 := ⟨vm_row tbX12_doStroke 45 rfl, rfl⟩
theorem dX12_doStroke_123 : vm_at cX12_doStroke 123 (.aload_n 0) 1 124 ∧ ((0 : Fin 4) : Nat) = 0 := ⟨⟨vm_row tbX12_doStroke 46 rfl, rfl⟩, rfl⟩
theorem dX12_doStroke_124 : vm_at cX12_doStroke 124 (.iconst 0) 1 125 ∧ Int32.ofInt (0) = (0 : Int32) := ⟨⟨vm_row tbX12_doStroke 47 rfl, rfl⟩, z_iconst_0⟩
theorem dX12_doStroke_125 : vm_at cX12_doStroke 125 (.putfield 206) 3 128 := ⟨vm_row tbX12_doStroke 48 rfl, rfl⟩
theorem dX12_doStroke_128 : vm_br cX12_doStroke 128 (.goto 130) 3 131 (130) 258 := ⟨vm_row tbX12_doStroke 49 rfl, rfl, rfl⟩
theorem dX12_doStroke_131 : vm_at cX12_doStroke 131 (.aload_n 0) 1 132 ∧ ((0 : Fin 4) : Nat) = 0 := ⟨⟨vm_row tbX12_doStroke 50 rfl, rfl⟩, rfl⟩
theorem dX12_doStroke_132 : vm_at cX12_doStroke 132 (.aload_n 0) 1 133 ∧ ((0 : Fin 4) : Nat) = 0 := ⟨⟨vm_row tbX12_doStroke 51 rfl, rfl⟩, rfl⟩
theorem dX12_doStroke_133 : vm_at cX12_doStroke 133 (.getfield 200) 3 136 := ⟨vm_row tbX12_doStroke 52 rfl, rfl⟩
theorem dX12_doStroke_136 : vm_br cX12_doStroke 136 (.ifCond .le 22) 3 139 (22) 158 := ⟨vm_row tbX12_doStroke 53 rfl, rfl, rfl⟩
theorem dX12_doStroke_139 : vm_at cX12_doStroke 139 (.aload_n 0) 1 140 ∧ ((0 : Fin 4) : Nat) = 0 := ⟨⟨vm_row tbX12_doStroke 54 rfl, rfl⟩, rfl⟩
theorem dX12_doStroke_140 : vm_at cX12_doStroke 140 (.aload_n 0) 1 141 ∧ ((0 : Fin 4) : Nat) = 0 := ⟨⟨vm_row tbX12_doStroke 55 rfl, rfl⟩, rfl⟩
theorem dX12_doStroke_141 : vm_at cX12_doStroke 141 (.getfield 200) 3 144 := ⟨vm_row tbX12_doStroke 56 rfl, rfl⟩
theorem dX12_doStroke_144 : vm_at cX12_doStroke 144 (.aload_n 0) 1 145 ∧ ((0 : Fin 4) : Nat) = 0 := ⟨⟨vm_row tbX12_doStroke 57 rfl, rfl⟩, rfl⟩
theorem dX12_doStroke_145 : vm_at cX12_doStroke 145 (.getfield 203) 3 148 := ⟨vm_row tbX12_doStroke 58 rfl, rfl⟩
theorem dX12_doStroke_148 : vm_at cX12_doStroke 148 (.aload_n 0) 1 149 ∧ ((0 : Fin 4) : Nat) = 0 := ⟨⟨vm_row tbX12_doStroke 59 rfl, rfl⟩, rfl⟩
theorem dX12_doStroke_149 : vm_at cX12_doStroke 149 (.getfield 197) 3 152 := ⟨vm_row tbX12_doStroke 60 rfl, rfl⟩
theorem dX12_doStroke_152 : vm_at cX12_doStroke 152 (.invokevirtual 219) 3 155 := ⟨vm_row tbX12_doStroke 61 rfl, rfl⟩
theorem dX12_doStroke_155 : vm_br cX12_doStroke 155 (.goto 7) 3 158 (7) 162 := ⟨vm_row tbX12_doStroke 62 rfl, rfl, rfl⟩
theorem dX12_doStroke_158 : vm_at cX12_doStroke 158 (.aload_n 0) 1 159 ∧ ((0 : Fin 4) : Nat) = 0 := ⟨⟨vm_row tbX12_doStroke 63 rfl, rfl⟩, rfl⟩
theorem dX12_doStroke_159 : vm_at cX12_doStroke 159 (.getfield 197) 3 162 := ⟨vm_row tbX12_doStroke 64 rfl, rfl⟩
theorem dX12_doStroke_162 : vm_at cX12_doStroke 162 (.putfield 197) 3 165 := ⟨vm_row tbX12_doStroke 65 rfl, rfl⟩
theorem dX12_doStroke_165 : vm_at cX12_doStroke 165 (.aload_n 0) 1 166 ∧ ((0 : Fin 4) : Nat) = 0 := ⟨⟨vm_row tbX12_doStroke 66 rfl, rfl⟩, rfl⟩
theorem dX12_doStroke_166 : vm_at cX12_doStroke 166 (.iconst 0) 1 167 ∧ Int32.ofInt (0) = (0 : Int32) := ⟨⟨vm_row tbX12_doStroke 67 rfl, rfl⟩, z_iconst_0⟩
theorem dX12_doStroke_167 : vm_at cX12_doStroke 167 (.putfield 203) 3 170 := ⟨vm_row tbX12_doStroke 68 rfl, rfl⟩
theorem dX12_doStroke_170 : vm_at cX12_doStroke 170 (.aload_n 0) 1 171 ∧ ((0 : Fin 4) : Nat) = 0 := ⟨⟨vm_row tbX12_doStroke 69 rfl, rfl⟩, rfl⟩
theorem dX12_doStroke_171 : vm_at cX12_doStroke 171 (.iconst 0) 1 172 ∧ Int32.ofInt (0) = (0 : Int32) := ⟨⟨vm_row tbX12_doStroke 70 rfl, rfl⟩, z_iconst_0⟩
theorem dX12_doStroke_172 : vm_at cX12_doStroke 172 (.putfield 200) 3 175 := ⟨vm_row tbX12_doStroke 71 rfl, rfl⟩
theorem dX12_doStroke_175 : vm_at cX12_doStroke 175 (.aload_n 0) 1 176 ∧ ((0 : Fin 4) : Nat) = 0 := ⟨⟨vm_row tbX12_doStroke 72 rfl, rfl⟩, rfl⟩
theorem dX12_doStroke_176 : vm_at cX12_doStroke 176 (.iconst 0) 1 177 ∧ Int32.ofInt (0) = (0 : Int32) := ⟨⟨vm_row tbX12_doStroke 73 rfl, rfl⟩, z_iconst_0⟩
theorem dX12_doStroke_177 : vm_at cX12_doStroke 177 (.putfield 206) 3 180 := ⟨vm_row tbX12_doStroke 74 rfl, rfl⟩
theorem dX12_doStroke_180 : vm_br cX12_doStroke 180 (.goto 78) 3 183 (78) 258 := ⟨vm_row tbX12_doStroke 75 rfl, rfl, rfl⟩
theorem dX12_doStroke_183 : vm_at cX12_doStroke 183 (.aload_n 0) 1 184 ∧ ((0 : Fin 4) : Nat) = 0 := ⟨⟨vm_row tbX12_doStroke 76 rfl, rfl⟩, rfl⟩
theorem dX12_doStroke_184 : vm_at cX12_doStroke 184 (.invokevirtual 185) 3 187 := ⟨vm_row tbX12_doStroke 77 rfl, rfl⟩
theorem dX12_doStroke_187 : vm_br cX12_doStroke 187 (.goto 71) 3 190 (71) 258 := ⟨vm_row tbX12_doStroke 78 rfl, rfl, rfl⟩
theorem dX12_doStroke_190 : vm_at cX12_doStroke 190 (.aload_n 0) 1 191 ∧ ((0 : Fin 4) : Nat) = 0 := ⟨⟨vm_row tbX12_doStroke 79 rfl, rfl⟩, rfl⟩
theorem dX12_doStroke_191 : vm_at cX12_doStroke 191 (.aload_n 0) 1 192 ∧ ((0 : Fin 4) : Nat) = 0 := ⟨⟨vm_row tbX12_doStroke 80 rfl, rfl⟩, rfl⟩
theorem dX12_doStroke_192 : vm_at cX12_doStroke 192 (.aload_n 0) 1 193 ∧ ((0 : Fin 4) : Nat) = 0 := ⟨⟨vm_row tbX12_doStroke 81 rfl, rfl⟩, rfl⟩
theorem dX12_doStroke_193 : vm_at cX12_doStroke 193 (.getfield 13) 3 196 := ⟨vm_row tbX12_doStroke 82 rfl, rfl⟩
theorem dX12_doStroke_196 : vm_at cX12_doStroke 196 (.iconst 4) 1 197 ∧ Int32.ofInt (4) = (4 : Int32) := ⟨⟨vm_row tbX12_doStroke 83 rfl, rfl⟩, z_iconst_4⟩
theorem dX12_doStroke_197 : vm_at cX12_doStroke 197 (.iload_n 1) 1 198 ∧ ((1 : Fin 4) : Nat) = 1 := ⟨⟨vm_row tbX12_doStroke 84 rfl, rfl⟩, rfl⟩
theorem dX12_doStroke_198 : vm_at cX12_doStroke 198 (.imul) 1 199 := ⟨vm_row tbX12_doStroke 85 rfl, rfl⟩
theorem dX12_doStroke_199 : vm_at cX12_doStroke 199 (.iconst 3) 1 200 ∧ Int32.ofInt (3) = (3 : Int32) := ⟨⟨vm_row tbX12_doStroke 86 rfl, rfl⟩, z_iconst_3⟩
theorem dX12_doStroke_200 : vm_at cX12_doStroke 200 (.iadd) 1 201 := ⟨vm_row tbX12_doStroke 87 rfl, rfl⟩
theorem dX12_doStroke_201 : vm_at cX12_doStroke 201 (.iaload) 1 202 := ⟨vm_row tbX12_doStroke 88 rfl, rfl⟩
theorem dX12_doStroke_202 : vm_at cX12_doStroke 202 (.aload_n 0) 1 203 ∧ ((0 : Fin 4) : Nat) = 0 := ⟨⟨vm_row tbX12_doStroke 89 rfl, rfl⟩, rfl⟩
theorem dX12_doStroke_203 : vm_at cX12_doStroke 203 (.getfield 197) 3 206 := ⟨vm_row tbX12_doStroke 90 rfl, rfl⟩
theorem dX12_doStroke_206 : vm_at cX12_doStroke 206 (.aload_n 0) 1 207 ∧ ((0 : Fin 4) : Nat) = 0 := ⟨⟨vm_row tbX12_doStroke 91 rfl, rfl⟩, rfl⟩
theorem dX12_doStroke_207 : vm_at cX12_doStroke 207 (.getfield 13) 3 210 := ⟨vm_row tbX12_doStroke 92 rfl, rfl⟩
theorem dX12_doStroke_210 : vm_at cX12_doStroke 210 (.iconst 4) 1 211 ∧ Int32.ofInt (4) = (4 : Int32) := ⟨⟨vm_row tbX12_doStroke 93 rfl, rfl⟩, z_iconst_4⟩
theorem dX12_doStroke_211 : vm_at cX12_doStroke 211 (.iload_n 1) 1 212 ∧ ((1 : Fin 4) : Nat) = 1 := ⟨⟨vm_row tbX12_doStroke 94 rfl, rfl⟩, rfl⟩
theorem dX12_doStroke_212 : vm_at cX12_doStroke 212 (.imul) 1 213 := ⟨vm_row tbX12_doStroke 95 rfl, rfl⟩
theorem dX12_doStroke_213 : vm_at cX12_doStroke 213 (.iconst 2) 1 214 ∧ Int32.ofInt (2) = (2 : Int32) := ⟨⟨vm_row tbX12_doStroke 96 rfl, rfl⟩, z_iconst_2⟩
theorem dX12_doStroke_214 : vm_at cX12_doStroke 214 (.iadd) 1 215 := ⟨vm_row tbX12_doStroke 97 rfl, rfl⟩
theorem dX12_doStroke_215 : vm_at cX12_doStroke 215 (.iaload) 1 216 := ⟨vm_row tbX12_doStroke 98 rfl, rfl⟩
theorem dX12_doStroke_216 : vm_at cX12_doStroke 216 (.invokevirtual 219) 3 219 := ⟨vm_row tbX12_doStroke 99 rfl, rfl⟩
theorem dX12_doStroke_219 : vm_at cX12_doStroke 219 (.putfield 197) 3 222 := ⟨vm_row tbX12_doStroke 100 rfl, rfl⟩
theorem dX12_doStroke_222 : vm_at cX12_doStroke 222 (.aload_n 0) 1 223 ∧ ((0 : Fin 4) : Nat) = 0 := ⟨⟨vm_row tbX12_doStroke 101 rfl, rfl⟩, rfl⟩
theorem dX12_doStroke_223 : vm_at cX12_doStroke 223 (.iconst 0) 1 224 ∧ Int32.ofInt (0) = (0 : Int32) := ⟨⟨vm_row tbX12_doStroke 102 rfl, rfl⟩, z_iconst_0⟩
theorem dX12_doStroke_224 : vm_at cX12_doStroke 224 (.putfield 206) 3 227 := ⟨vm_row tbX12_doStroke 103 rfl, rfl⟩
theorem dX12_doStroke_227 : vm_br cX12_doStroke 227 (.goto 31) 3 230 (31) 258 := ⟨vm_row tbX12_doStroke 104 rfl, rfl, rfl⟩
theorem dX12_doStroke_230 : vm_at cX12_doStroke 230 (.aload_n 0) 1 231 ∧ ((0 : Fin 4) : Nat) = 0 := ⟨⟨vm_row tbX12_doStroke 105 rfl, rfl⟩, rfl⟩
theorem dX12_doStroke_231 : vm_at cX12_doStroke 231 (.aload_n 0) 1 232 ∧ ((0 : Fin 4) : Nat) = 0 := ⟨⟨vm_row tbX12_doStroke 106 rfl, rfl⟩, rfl⟩
theorem dX12_doStroke_232 : vm_at cX12_doStroke 232 (.getfield 13) 3 235 := ⟨vm_row tbX12_doStroke 107 rfl, rfl⟩
theorem dX12_doStroke_235 : vm_at cX12_doStroke 235 (.iconst 4) 1 236 ∧ Int32.ofInt (4) = (4 : Int32) := ⟨⟨vm_row tbX12_doStroke 108 rfl, rfl⟩, z_iconst_4⟩
theorem dX12_doStroke_236 : vm_at cX12_doStroke 236 (.iload_n 1) 1 237 ∧ ((1 : Fin 4) : Nat) = 1 := ⟨⟨vm_row tbX12_doStroke 109 rfl, rfl⟩, rfl⟩
theorem dX12_doStroke_237 : vm_at cX12_doStroke 237 (.imul) 1 238 := ⟨vm_row tbX12_doStroke 110 rfl, rfl⟩
theorem dX12_doStroke_238 : vm_at cX12_doStroke 238 (.iconst 2) 1 239 ∧ Int32.ofInt (2) = (2 : Int32) := ⟨⟨vm_row tbX12_doStroke 111 rfl, rfl⟩, z_iconst_2⟩
theorem dX12_doStroke_239 : vm_at cX12_doStroke 239 (.iadd) 1 240 := ⟨vm_row tbX12_doStroke 112 rfl, rfl⟩
theorem dX12_doStroke_240 : vm_at cX12_doStroke 240 (.iaload) 1 241 := ⟨vm_row tbX12_doStroke 113 rfl, rfl⟩
theorem dX12_doStroke_241 : vm_at cX12_doStroke 241 (.invokevirtual 215) 3 244 := ⟨vm_row tbX12_doStroke 114 rfl, rfl⟩
theorem dX12_doStroke_244 : vm_at cX12_doStroke 244 (.aload_n 0) 1 245 ∧ ((0 : Fin 4) : Nat) = 0 := ⟨⟨vm_row tbX12_doStroke 115 rfl, rfl⟩, rfl⟩
theorem dX12_doStroke_245 : vm_at cX12_doStroke 245 (.aload_n 0) 1 246 ∧ ((0 : Fin 4) : Nat) = 0 := ⟨⟨vm_row tbX12_doStroke 116 rfl, rfl⟩, rfl⟩
theorem dX12_doStroke_246 : vm_at cX12_doStroke 246 (.getfield 13) 3 249 := ⟨vm_row tbX12_doStroke 117 rfl, rfl⟩
theorem dX12_doStroke_249 : vm_at cX12_doStroke 249 (.iconst 4) 1 250 ∧ Int32.ofInt (4) = (4 : Int32) := ⟨⟨vm_row tbX12_doStroke 118 rfl, rfl⟩, z_iconst_4⟩
theorem dX12_doStroke_250 : vm_at cX12_doStroke 250 (.iload_n 1) 1 251 ∧ ((1 : Fin 4) : Nat) = 1 := ⟨⟨vm_row tbX12_doStroke 119 rfl, rfl⟩, rfl⟩
theorem dX12_doStroke_251 : vm_at cX12_doStroke 251 (.imul) 1 252 := ⟨vm_row tbX12_doStroke 120 rfl, rfl⟩
theorem dX12_doStroke_252 : vm_at cX12_doStroke 252 (.iconst 3) 1 253 ∧ Int32.ofInt (3) = (3 : Int32) := ⟨⟨vm_row tbX12_doStroke 121 rfl, rfl⟩, z_iconst_3⟩
theorem dX12_doStroke_253 : vm_at cX12_doStroke 253 (.iadd) 1 254 := ⟨vm_row tbX12_doStroke 122 rfl, rfl⟩
theorem dX12_doStroke_254 : vm_at cX12_doStroke 254 (.iaload) 1 255 := ⟨vm_row tbX12_doStroke 123 rfl, rfl⟩
theorem dX12_doStroke_255 : vm_at cX12_doStroke 255 (.invokevirtual 215) 3 258 := ⟨vm_row tbX12_doStroke 124 rfl, rfl⟩
theorem dX12_doStroke_258 : vm_at cX12_doStroke 258 (.return_) 1 259 := ⟨vm_row tbX12_doStroke 125 rfl, rfl⟩
def tlX12_stateNow : List (Nat × Instr × Nat) := [(0, .aload_n 0, 1), (1, .getfield 197, 3), (4, .iconst 4, 1), (5, .imul, 1), (6, .aload_n 0, 1), (7, .getfield 200, 3), (10, .iadd, 1), (11, .aload_n 0, 1), (12, .getfield 65, 3), (15, .imul, 1), (16, .aload_n 0, 1), (17, .getfield 203, 3), (20, .iadd, 1), (21, .iconst 2, 1), (22, .imul, 1), (23, .aload_n 0, 1), (24, .getfield 206, 3), (27, .ifCond .eq 7, 3), (30, .iconst 1, 1), (31, .goto 4, 3), (34, .iconst 0, 1), (35, .iadd, 1), (36, .ireturn, 1)]
theorem tbX12_stateNow : vm_chk cX12_stateNow tlX12_stateNow = true := by decide +kernel
theorem dX12_stateNow_0 : vm_at cX12_stateNow 0 (.aload_n 0) 1 1 ∧ ((0 : Fin 4) : Nat) = 0 := ⟨⟨vm_row tbX12_stateNow 0 rfl, rfl⟩, rfl⟩
theorem dX12_stateNow_1 : vm_at cX12_stateNow 1 (.getfield 197) 3 4 := ⟨vm_row tbX12_stateNow 1 rfl, rfl⟩
theorem dX12_stateNow_4 : vm_at cX12_stateNow 4 (.iconst 4) 1 5 ∧ Int32.ofInt (4) = (4 : Int32) := ⟨⟨vm_row tbX12_stateNow 2 rfl, rfl⟩, z_iconst_4⟩
theorem dX12_stateNow_5 : vm_at cX12_stateNow 5 (.imul) 1 6 := ⟨vm_row tbX12_stateNow 3 rfl, rfl⟩
theorem dX12_stateNow_6 : vm_at cX12_stateNow 6 (.aload_n 0) 1 7 ∧ ((0 : Fin 4) : Nat) = 0 := ⟨⟨vm_row tbX12_stateNow 4 rfl, rfl⟩, rfl⟩
theorem dX12_stateNow_7 : vm_at cX12_stateNow 7 (.getfield 200) 3 10 := ⟨vm_row tbX12_stateNow 5 rfl, rfl⟩
theorem dX12_stateNow_10 : vm_at cX12_stateNow 10 (.iadd) 1 11 := ⟨vm_row tbX12_stateNow 6 rfl, rfl⟩
theorem dX12_stateNow_11 : vm_at cX12_stateNow 11 (.aload_n 0) 1 12 ∧ ((0 : Fin 4) : Nat) = 0 := ⟨⟨vm_row tbX12_stateNow 7 rfl, rfl⟩, rfl⟩
theorem dX12_stateNow_12 : vm_at cX12_stateNow 12 (.getfield 65) 3 15 := ⟨vm_row tbX12_stateNow 8 rfl, rfl⟩
theorem dX12_stateNow_15 : vm_at cX12_stateNow 15 (.imul) 1 16 := ⟨vm_row tbX12_stateNow 9 rfl, rfl⟩
theorem dX12_stateNow_16 : vm_at cX12_stateNow 16 (.aload_n 0) 1 17 ∧ ((0 : Fin 4) : Nat) = 0 := ⟨⟨vm_row tbX12_stateNow 10 rfl, rfl⟩, rfl⟩
theorem dX12_stateNow_17 : vm_at cX12_stateNow 17 (.getfield 203) 3 20 := ⟨vm_row tbX12_stateNow 11 rfl, rfl⟩
theorem dX12_stateNow_20 : vm_at cX12_stateNow 20 (.iadd) 1 21 := ⟨vm_row tbX12_stateNow 12 rfl, rfl⟩
theorem dX12_stateNow_21 : vm_at cX12_stateNow 21 (.iconst 2) 1 22 ∧ Int32.ofInt (2) = (2 : Int32) := ⟨⟨vm_row tbX12_stateNow 13 rfl, rfl⟩, z_iconst_2⟩
theorem dX12_stateNow_22 : vm_at cX12_stateNow 22 (.imul) 1 23 := ⟨vm_row tbX12_stateNow 14 rfl, rfl⟩
theorem dX12_stateNow_23 : vm_at cX12_stateNow 23 (.aload_n 0) 1 24 ∧ ((0 : Fin 4) : Nat) = 0 := ⟨⟨vm_row tbX12_stateNow 15 rfl, rfl⟩, rfl⟩
theorem dX12_stateNow_24 : vm_at cX12_stateNow 24 (.getfield 206) 3 27 := ⟨vm_row tbX12_stateNow 16 rfl, rfl⟩
theorem dX12_stateNow_27 : vm_br cX12_stateNow 27 (.ifCond .eq 7) 3 30 (7) 34 := ⟨vm_row tbX12_stateNow 17 rfl, rfl, rfl⟩
theorem dX12_stateNow_30 : vm_at cX12_stateNow 30 (.iconst 1) 1 31 ∧ Int32.ofInt (1) = (1 : Int32) := ⟨⟨vm_row tbX12_stateNow 18 rfl, rfl⟩, z_iconst_1⟩
theorem dX12_stateNow_31 : vm_br cX12_stateNow 31 (.goto 4) 3 34 (4) 35 := ⟨vm_row tbX12_stateNow 19 rfl, rfl, rfl⟩
theorem dX12_stateNow_34 : vm_at cX12_stateNow 34 (.iconst 0) 1 35 ∧ Int32.ofInt (0) = (0 : Int32) := ⟨⟨vm_row tbX12_stateNow 20 rfl, rfl⟩, z_iconst_0⟩
theorem dX12_stateNow_35 : vm_at cX12_stateNow 35 (.iadd) 1 36 := ⟨vm_row tbX12_stateNow 21 rfl, rfl⟩
theorem dX12_stateNow_36 : vm_at cX12_stateNow 36 (.ireturn) 1 37 := ⟨vm_row tbX12_stateNow 22 rfl, rfl⟩
def tlX12_setState : List (Nat × Instr × Nat) := [(0, .aload_n 0, 1), (1, .iload_n 1, 1), (2, .iconst 2, 1), (3, .irem, 1), (4, .iconst 1, 1), (5, .if_icmp .ne 7, 3), (8, .iconst 1, 1), (9, .goto 4, 3), (12, .iconst 0, 1), (13, .putfield 206, 3), (16, .aload_n 0, 1), (17, .aload_n 0, 1), (18, .getfield 65, 3), (21, .ifCond .ne 7, 3), (24, .iconst 0, 1), (25, .goto 11, 3), (28, .iload_n 1, 1), (29, .iconst 2, 1), (30, .idiv, 1), (31, .aload_n 0, 1), (32, .getfield 65, 3), (35, .irem, 1), (36, .putfield 203, 3), (39, .aload_n 0, 1), (40, .aload_n 0, 1), (41, .getfield 65, 3), (44, .ifCond .ne 7, 3), (47, .iconst 0, 1), (48, .goto 13, 3), (51, .iload_n 1, 1), (52, .iconst 2, 1), (53, .idiv, 1), (54, .aload_n 0, 1), (55, .getfield 65, 3), (58, .idiv, 1), (59, .iconst 4, 1), (60, .irem, 1), (61, .putfield 200, 3), (64, .aload_n 0, 1), (65, .aload_n 0, 1), (66, .getfield 65, 3), (69, .ifCond .ne 7, 3), (72, .iconst 0, 1), (73, .goto 12, 3), (76, .iload_n 1, 1), (77, .bipush 8, 2), (79, .idiv, 1), (80, .aload_n 0, 1), (81, .getfield 65, 3), (84, .idiv, 1), (85, .putfield 197, 3), (88, .return_, 1)]
theorem tbX12_setState : vm_chk cX12_setState tlX12_setState = true := by decide +kernel
theorem dX12_setState_0 : vm_at cX12_setState 0 (.aload_n 0) 1 1 ∧ ((0 : Fin 4) : Nat) = 0 := ⟨⟨vm_row tbX12_setState 0 rfl, rfl⟩, rfl⟩
theorem dX12_setState_1 : vm_at cX12_setState 1 (.iload_n 1) 1 2 ∧ ((1 : Fin 4) : Nat) = 1 := ⟨⟨vm_row tbX12_setState 1 rfl, rfl⟩, rfl⟩
theorem dX12_setState_2 : vm_at cX12_setState 2 (.iconst 2) 1 3 ∧ Int32.ofInt (2) = (2 : Int32) := ⟨⟨vm_row tbX12_setState 2 rfl, rfl⟩, z_iconst_2⟩
theorem dX12_setState_3 : vm_at cX12_setState 3 (.irem) 1 4 := ⟨vm_row tbX12_setState 3 rfl, rfl⟩
theorem dX12_setState_4 : vm_at cX12_setState 4 (.iconst 1) 1 5 ∧ Int32.ofInt (1) = (1 : Int32) := ⟨⟨vm_row tbX12_setState 4 rfl, rfl⟩, z_iconst_1⟩
theorem dX12_setState_5 : vm_br cX12_setState 5 (.if_icmp .ne 7) 3 8 (7) 12 := ⟨vm_row tbX12_setState 5 rfl, rfl, rfl⟩
theorem dX12_setState_8 : vm_at cX12_setState 8 (.iconst 1) 1 9 ∧ Int32.ofInt (1) = (1 : Int32) := ⟨⟨vm_row tbX12_setState 6 rfl, rfl⟩, z_iconst_1⟩
theorem dX12_setState_9 : vm_br cX12_setState 9 (.goto 4) 3 12 (4) 13 := ⟨vm_row tbX12_setState 7 rfl, rfl, rfl⟩
theorem dX12_setState_12 : vm_at cX12_setState 12 (.iconst 0) 1 13 ∧ Int32.ofInt (0) = (0 : Int32) := ⟨⟨vm_row tbX12_setState 8 rfl, rfl⟩, z_iconst_0⟩
theorem dX12_setState_13 : vm_at cX12_setState 13 (.putfield 206) 3 16 := ⟨vm_row tbX12_setState 9 rfl, rfl⟩
theorem dX12_setState_16 : vm_at cX12_setState 16 (.aload_n 0) 1 17 ∧ ((0 : Fin 4) : Nat) = 0 := ⟨⟨vm_row tbX12_setState 10 rfl, rfl⟩, rfl⟩
theorem dX12_setState_17 : vm_at cX12_setState 17 (.aload_n 0) 1 18 ∧ ((0 : Fin 4) : Nat) = 0 := ⟨⟨vm_row tbX12_setState 11 rfl, rfl⟩, rfl⟩
theorem dX12_setState_18 : vm_at cX12_setState 18 (.getfield 65) 3 21 := ⟨vm_row tbX12_setState 12 rfl, rfl⟩
theorem dX12_setState_21 : vm_br cX12_setState 21 (.ifCond .ne 7) 3 24 (7) 28 := ⟨vm_row tbX12_setState 13 rfl, rfl, rfl⟩
theorem dX12_setState_24 : vm_at cX12_setState 24 (.iconst 0) 1 25 ∧ Int32.ofInt (0) = (0 : Int32) := ⟨⟨vm_row tbX12_setState 14 rfl, rfl⟩, z_iconst_0⟩
theorem dX12_setState_25 : vm_br cX12_setState 25 (.goto 11) 3 28 (11) 36 := ⟨vm_row tbX12_setState 15 rfl, rfl, rfl⟩
theorem dX12_setState_28 : vm_at cX12_setState 28 (.iload_n 1) 1 29 ∧ ((1 : Fin 4) : Nat) = 1 := ⟨⟨vm_row tbX12_setState 16 rfl, rfl⟩, rfl⟩
theorem dX12_setState_29 : vm_at cX12_setState 29 (.iconst 2) 1 30 ∧ Int32.ofInt (2) = (2 : Int32) := ⟨⟨vm_row tbX12_setState 17 rfl, rfl⟩, z_iconst_2⟩
theorem dX12_setState_30 : vm_at cX12_setState 30 (.idiv) 1 31 := ⟨vm_row tbX12_setState 18 rfl, rfl⟩
theorem dX12_setState_31 : vm_at cX12_setState 31 (.aload_n 0) 1 32 ∧ ((0 : Fin 4) : Nat) = 0 := ⟨⟨vm_row tbX12_setState 19 rfl, rfl⟩, rfl⟩
theorem dX12_setState_32 : vm_at cX12_setState 32 (.getfield 65) 3 35 := ⟨vm_row tbX12_setState 20 rfl, rfl⟩
theorem dX12_setState_35 : vm_at cX12_setState 35 (.irem) 1 36 := ⟨vm_row tbX12_setState 21 rfl, rfl⟩
theorem dX12_setState_36 : vm_at cX12_setState 36 (.putfield 203) 3 39 := ⟨vm_row tbX12_setState 22 rfl, rfl⟩
theorem dX12_setState_39 : vm_at cX12_setState 39 (.aload_n 0) 1 40 ∧ ((0 : Fin 4) : Nat) = 0 := ⟨⟨vm_row tbX12_setState 23 rfl, rfl⟩, rfl⟩
theorem dX12_setState_40 : vm_at cX12_setState 40 (.aload_n 0) 1 41 ∧ ((0 : Fin 4) : Nat) = 0 := ⟨⟨vm_row tbX12_setState 24 rfl, rfl⟩, rfl⟩
theorem dX12_setState_41 : vm_at cX12_setState 41 (.getfield 65) 3 44 := ⟨vm_row tbX12_setState 25 rfl, rfl⟩
theorem dX12_setState_44 : vm_br cX12_setState 44 (.ifCond .ne 7) 3 47 (7) 51 := ⟨vm_row tbX12_setState 26 rfl, rfl, rfl⟩
theorem dX12_setState_47 : vm_at cX12_setState 47 (.iconst 0) 1 48 ∧ Int32.ofInt (0) = (0 : Int32) := ⟨⟨vm_row tbX12_setState 27 rfl, rfl⟩, z_iconst_0⟩
theorem dX12_setState_48 : vm_br cX12_setState 48 (.goto 13) 3 51 (13) 61 := ⟨vm_row tbX12_setState 28 rfl, rfl, rfl⟩
theorem dX12_setState_51 : vm_at cX12_setState 51 (.iload_n 1) 1 52 ∧ ((1 : Fin 4) : Nat) = 1 := ⟨⟨vm_row tbX12_setState 29 rfl, rfl⟩, rfl⟩
theorem dX12_setState_52 : vm_at cX12_setState 52 (.iconst 2) 1 53 ∧ Int32.ofInt (2) = (2 : Int32) := ⟨⟨vm_row tbX12_setState 30 rfl, rfl⟩, z_iconst_2⟩
theorem dX12_setState_53 : vm_at cX12_setState 53 (.idiv) 1 54 := ⟨vm_row tbX12_setState 31 rfl, rfl⟩
theorem dX12_setState_54 : vm_at cX12_setState 54 (.aload_n 0) 1 55 ∧ ((0 : Fin 4) : Nat) = 0 := ⟨⟨vm_row tbX12_setState 32 rfl, rfl⟩, rfl⟩
theorem dX12_setState_55 : vm_at cX12_setState 55 (.getfield 65) 3 58 := ⟨vm_row tbX12_setState 33 rfl, rfl⟩
theorem dX12_setState_58 : vm_at cX12_setState 58 (.idiv) 1 59 := ⟨vm_row tbX12_setState 34 rfl, rfl⟩
theorem dX12_setState_59 : vm_at cX12_setState 59 (.iconst 4) 1 60 ∧ Int32.ofInt (4) = (4 : Int32) := ⟨⟨vm_row tbX12_setState 35 rfl, rfl⟩, z_iconst_4⟩
theorem dX12_setState_60 : vm_at cX12_setState 60 (.irem) 1 61 := ⟨vm_row tbX12_setState 36 rfl, rfl⟩
theorem dX12_setState_61 : vm_at cX12_setState 61 (.putfield 200) 3 64 := ⟨vm_row tbX12_setState 37 rfl, rfl⟩
theorem dX12_setState_64 : vm_at cX12_setState 64 (.aload_n 0) 1 65 ∧ ((0 : Fin 4) : Nat) = 0 := ⟨⟨vm_row tbX12_setState 38 rfl, rfl⟩, rfl⟩
theorem dX12_setState_65 : vm_at cX12_setState 65 (.aload_n 0) 1 66 ∧ ((0 : Fin 4) : Nat) = 0 := ⟨⟨vm_row tbX12_setState 39 rfl, rfl⟩, rfl⟩
theorem dX12_setState_66 : vm_at cX12_setState 66 (.getfield 65) 3 69 := ⟨vm_row tbX12_setState 40 rfl, rfl⟩
theorem dX12_setState_69 : vm_br cX12_setState 69 (.ifCond .ne 7) 3 72 (7) 76 := ⟨vm_row tbX12_setState 41 rfl, rfl, rfl⟩
theorem dX12_setState_72 : vm_at cX12_setState 72 (.iconst 0) 1 73 ∧ Int32.ofInt (0) = (0 : Int32) := ⟨⟨vm_row tbX12_setState 42 rfl, rfl⟩, z_iconst_0⟩
theorem dX12_setState_73 : vm_br cX12_setState 73 (.goto 12) 3 76 (12) 85 := ⟨vm_row tbX12_setState 43 rfl, rfl, rfl⟩
theorem dX12_setState_76 : vm_at cX12_setState 76 (.iload_n 1) 1 77 ∧ ((1 : Fin 4) : Nat) = 1 := ⟨⟨vm_row tbX12_setState 44 rfl, rfl⟩, rfl⟩
theorem dX12_setState_77 : vm_at cX12_setState 77 (.bipush 8) 2 79 ∧ (Int8.ofInt (8)).toInt32 = (8 : Int32) := ⟨⟨vm_row tbX12_setState 45 rfl, rfl⟩, z_bipush_8⟩
theorem dX12_setState_79 : vm_at cX12_setState 79 (.idiv) 1 80 := ⟨vm_row tbX12_setState 46 rfl, rfl⟩
theorem dX12_setState_80 : vm_at cX12_setState 80 (.aload_n 0) 1 81 ∧ ((0 : Fin 4) : Nat) = 0 := ⟨⟨vm_row tbX12_setState 47 rfl, rfl⟩, rfl⟩
theorem dX12_setState_81 : vm_at cX12_setState 81 (.getfield 65) 3 84 := ⟨vm_row tbX12_setState 48 rfl, rfl⟩
theorem dX12_setState_84 : vm_at cX12_setState 84 (.idiv) 1 85 := ⟨vm_row tbX12_setState 49 rfl, rfl⟩
theorem dX12_setState_85 : vm_at cX12_setState 85 (.putfield 197) 3 88 := ⟨vm_row tbX12_setState 50 rfl, rfl⟩
theorem dX12_setState_88 : vm_at cX12_setState 88 (.return_) 1 89 := ⟨vm_row tbX12_setState 51 rfl, rfl⟩
def tlX12_shownIn : List (Nat × Instr × Nat) := [(0, .iload_n 1, 1), (1, .bipush 8, 2), (3, .idiv, 1), (4, .aload_n 0, 1), (5, .getfield 65, 3), (8, .idiv, 1), (9, .ireturn, 1)]
theorem tbX12_shownIn : vm_chk cX12_shownIn tlX12_shownIn = true := by decide +kernel
theorem dX12_shownIn_0 : vm_at cX12_shownIn 0 (.iload_n 1) 1 1 ∧ ((1 : Fin 4) : Nat) = 1 := ⟨⟨vm_row tbX12_shownIn 0 rfl, rfl⟩, rfl⟩
theorem dX12_shownIn_1 : vm_at cX12_shownIn 1 (.bipush 8) 2 3 ∧ (Int8.ofInt (8)).toInt32 = (8 : Int32) := ⟨⟨vm_row tbX12_shownIn 1 rfl, rfl⟩, z_bipush_8⟩
theorem dX12_shownIn_3 : vm_at cX12_shownIn 3 (.idiv) 1 4 := ⟨vm_row tbX12_shownIn 2 rfl, rfl⟩
theorem dX12_shownIn_4 : vm_at cX12_shownIn 4 (.aload_n 0) 1 5 ∧ ((0 : Fin 4) : Nat) = 0 := ⟨⟨vm_row tbX12_shownIn 3 rfl, rfl⟩, rfl⟩
theorem dX12_shownIn_5 : vm_at cX12_shownIn 5 (.getfield 65) 3 8 := ⟨vm_row tbX12_shownIn 4 rfl, rfl⟩
theorem dX12_shownIn_8 : vm_at cX12_shownIn 8 (.idiv) 1 9 := ⟨vm_row tbX12_shownIn 5 rfl, rfl⟩
theorem dX12_shownIn_9 : vm_at cX12_shownIn 9 (.ireturn) 1 10 := ⟨vm_row tbX12_shownIn 6 rfl, rfl⟩
def tlX12_states : List (Nat × Instr × Nat) := [(0, .bipush 8, 2), (2, .aload_n 0, 1), (3, .getfield 65, 3), (6, .imul, 1), (7, .aload_n 0, 1), (8, .getfield 65, 3), (11, .imul, 1), (12, .ireturn, 1)]
theorem tbX12_states : vm_chk cX12_states tlX12_states = true := by decide +kernel
theorem dX12_states_0 : vm_at cX12_states 0 (.bipush 8) 2 2 ∧ (Int8.ofInt (8)).toInt32 = (8 : Int32) := ⟨⟨vm_row tbX12_states 0 rfl, rfl⟩, z_bipush_8⟩
theorem dX12_states_2 : vm_at cX12_states 2 (.aload_n 0) 1 3 ∧ ((0 : Fin 4) : Nat) = 0 := ⟨⟨vm_row tbX12_states 1 rfl, rfl⟩, rfl⟩
theorem dX12_states_3 : vm_at cX12_states 3 (.getfield 65) 3 6 := ⟨vm_row tbX12_states 2 rfl, rfl⟩
theorem dX12_states_6 : vm_at cX12_states 6 (.imul) 1 7 := ⟨vm_row tbX12_states 3 rfl, rfl⟩
theorem dX12_states_7 : vm_at cX12_states 7 (.aload_n 0) 1 8 ∧ ((0 : Fin 4) : Nat) = 0 := ⟨⟨vm_row tbX12_states 4 rfl, rfl⟩, rfl⟩
theorem dX12_states_8 : vm_at cX12_states 8 (.getfield 65) 3 11 := ⟨vm_row tbX12_states 5 rfl, rfl⟩
theorem dX12_states_11 : vm_at cX12_states 11 (.imul) 1 12 := ⟨vm_row tbX12_states 6 rfl, rfl⟩
theorem dX12_states_12 : vm_at cX12_states 12 (.ireturn) 1 13 := ⟨vm_row tbX12_states 7 rfl, rfl⟩
def tlX12_behind : List (Nat × Instr × Nat) := [(0, .aload_n 0, 1), (1, .iload_n 1, 1), (2, .invokevirtual 223, 3), (5, .aload_n 0, 1), (6, .iload_n 2, 1), (7, .invokevirtual 226, 3), (10, .aload_n 0, 1), (11, .invokevirtual 229, 3), (14, .ireturn, 1)]
theorem tbX12_behind : vm_chk cX12_behind tlX12_behind = true := by decide +kernel
theorem dX12_behind_0 : vm_at cX12_behind 0 (.aload_n 0) 1 1 ∧ ((0 : Fin 4) : Nat) = 0 := ⟨⟨vm_row tbX12_behind 0 rfl, rfl⟩, rfl⟩
theorem dX12_behind_1 : vm_at cX12_behind 1 (.iload_n 1) 1 2 ∧ ((1 : Fin 4) : Nat) = 1 := ⟨⟨vm_row tbX12_behind 1 rfl, rfl⟩, rfl⟩
theorem dX12_behind_2 : vm_at cX12_behind 2 (.invokevirtual 223) 3 5 := ⟨vm_row tbX12_behind 2 rfl, rfl⟩
theorem dX12_behind_5 : vm_at cX12_behind 5 (.aload_n 0) 1 6 ∧ ((0 : Fin 4) : Nat) = 0 := ⟨⟨vm_row tbX12_behind 3 rfl, rfl⟩, rfl⟩
theorem dX12_behind_6 : vm_at cX12_behind 6 (.iload_n 2) 1 7 ∧ ((2 : Fin 4) : Nat) = 2 := ⟨⟨vm_row tbX12_behind 4 rfl, rfl⟩, rfl⟩
theorem dX12_behind_7 : vm_at cX12_behind 7 (.invokevirtual 226) 3 10 := ⟨vm_row tbX12_behind 5 rfl, rfl⟩
theorem dX12_behind_10 : vm_at cX12_behind 10 (.aload_n 0) 1 11 ∧ ((0 : Fin 4) : Nat) = 0 := ⟨⟨vm_row tbX12_behind 6 rfl, rfl⟩, rfl⟩
theorem dX12_behind_11 : vm_at cX12_behind 11 (.invokevirtual 229) 3 14 := ⟨vm_row tbX12_behind 7 rfl, rfl⟩
theorem dX12_behind_14 : vm_at cX12_behind 14 (.ireturn) 1 15 := ⟨vm_row tbX12_behind 8 rfl, rfl⟩
def tlX12_strike : List (Nat × Instr × Nat) := [(0, .iload_n 1, 1), (1, .iconst 0, 1), (2, .aload_n 0, 1), (3, .getfield 182, 3), (6, .iconst 1, 1), (7, .isub, 1), (8, .invokestatic 68, 3), (11, .ifCond .ne 6, 3), (14, .ldc 210, 2), (16, .ireturn, 1), (17, .aload_n 0, 1), (18, .iload_n 1, 1), (19, .invokevirtual 226, 3), (22, .aload_n 0, 1), (23, .dup, 1), (24, .getfield 188, 3), (27, .aload_n 0, 1), (28, .getfield 13, 3), (31, .iconst 4, 1), (32, .iload_n 1, 1), (33, .imul, 1), (34, .iconst 1, 1), (35, .iadd, 1), (36, .iaload, 1), (37, .iadd, 1), (38, .putfield 188, 3), (41, .aload_n 0, 1), (42, .getfield 197, 3), (45, .ireturn, 1)]
theorem tbX12_strike : vm_chk cX12_strike tlX12_strike = true := by decide +kernel
theorem dX12_strike_0 : vm_at cX12_strike 0 (.iload_n 1) 1 1 ∧ ((1 : Fin 4) : Nat) = 1 := ⟨⟨vm_row tbX12_strike 0 rfl, rfl⟩, rfl⟩
theorem dX12_strike_1 : vm_at cX12_strike 1 (.iconst 0) 1 2 ∧ Int32.ofInt (0) = (0 : Int32) := ⟨⟨vm_row tbX12_strike 1 rfl, rfl⟩, z_iconst_0⟩
theorem dX12_strike_2 : vm_at cX12_strike 2 (.aload_n 0) 1 3 ∧ ((0 : Fin 4) : Nat) = 0 := ⟨⟨vm_row tbX12_strike 2 rfl, rfl⟩, rfl⟩
theorem dX12_strike_3 : vm_at cX12_strike 3 (.getfield 182) 3 6 := ⟨vm_row tbX12_strike 3 rfl, rfl⟩
theorem dX12_strike_6 : vm_at cX12_strike 6 (.iconst 1) 1 7 ∧ Int32.ofInt (1) = (1 : Int32) := ⟨⟨vm_row tbX12_strike 4 rfl, rfl⟩, z_iconst_1⟩
theorem dX12_strike_7 : vm_at cX12_strike 7 (.isub) 1 8 := ⟨vm_row tbX12_strike 5 rfl, rfl⟩
theorem dX12_strike_8 : vm_at cX12_strike 8 (.invokestatic 68) 3 11 := ⟨vm_row tbX12_strike 6 rfl, rfl⟩
theorem dX12_strike_11 : vm_br cX12_strike 11 (.ifCond .ne 6) 3 14 (6) 17 := ⟨vm_row tbX12_strike 7 rfl, rfl, rfl⟩
theorem dX12_strike_14 : vm_at cX12_strike 14 (.ldc 210) 2 16 := ⟨vm_row tbX12_strike 8 rfl, rfl⟩
theorem dX12_strike_16 : vm_at cX12_strike 16 (.ireturn) 1 17 := ⟨vm_row tbX12_strike 9 rfl, rfl⟩
theorem dX12_strike_17 : vm_at cX12_strike 17 (.aload_n 0) 1 18 ∧ ((0 : Fin 4) : Nat) = 0 := ⟨⟨vm_row tbX12_strike 10 rfl, rfl⟩, rfl⟩
theorem dX12_strike_18 : vm_at cX12_strike 18 (.iload_n 1) 1 19 ∧ ((1 : Fin 4) : Nat) = 1 := ⟨⟨vm_row tbX12_strike 11 rfl, rfl⟩, rfl⟩
theorem dX12_strike_19 : vm_at cX12_strike 19 (.invokevirtual 226) 3 22 := ⟨vm_row tbX12_strike 12 rfl, rfl⟩
theorem dX12_strike_22 : vm_at cX12_strike 22 (.aload_n 0) 1 23 ∧ ((0 : Fin 4) : Nat) = 0 := ⟨⟨vm_row tbX12_strike 13 rfl, rfl⟩, rfl⟩
theorem dX12_strike_23 : vm_at cX12_strike 23 (.dup) 1 24 := ⟨vm_row tbX12_strike 14 rfl, rfl⟩
theorem dX12_strike_24 : vm_at cX12_strike 24 (.getfield 188) 3 27 := ⟨vm_row tbX12_strike 15 rfl, rfl⟩
theorem dX12_strike_27 : vm_at cX12_strike 27 (.aload_n 0) 1 28 ∧ ((0 : Fin 4) : Nat) = 0 := ⟨⟨vm_row tbX12_strike 16 rfl, rfl⟩, rfl⟩
theorem dX12_strike_28 : vm_at cX12_strike 28 (.getfield 13) 3 31 := ⟨vm_row tbX12_strike 17 rfl, rfl⟩
theorem dX12_strike_31 : vm_at cX12_strike 31 (.iconst 4) 1 32 ∧ Int32.ofInt (4) = (4 : Int32) := ⟨⟨vm_row tbX12_strike 18 rfl, rfl⟩, z_iconst_4⟩
theorem dX12_strike_32 : vm_at cX12_strike 32 (.iload_n 1) 1 33 ∧ ((1 : Fin 4) : Nat) = 1 := ⟨⟨vm_row tbX12_strike 19 rfl, rfl⟩, rfl⟩
theorem dX12_strike_33 : vm_at cX12_strike 33 (.imul) 1 34 := ⟨vm_row tbX12_strike 20 rfl, rfl⟩
theorem dX12_strike_34 : vm_at cX12_strike 34 (.iconst 1) 1 35 ∧ Int32.ofInt (1) = (1 : Int32) := ⟨⟨vm_row tbX12_strike 21 rfl, rfl⟩, z_iconst_1⟩
theorem dX12_strike_35 : vm_at cX12_strike 35 (.iadd) 1 36 := ⟨vm_row tbX12_strike 22 rfl, rfl⟩
theorem dX12_strike_36 : vm_at cX12_strike 36 (.iaload) 1 37 := ⟨vm_row tbX12_strike 23 rfl, rfl⟩
theorem dX12_strike_37 : vm_at cX12_strike 37 (.iadd) 1 38 := ⟨vm_row tbX12_strike 24 rfl, rfl⟩
theorem dX12_strike_38 : vm_at cX12_strike 38 (.putfield 188) 3 41 := ⟨vm_row tbX12_strike 25 rfl, rfl⟩
theorem dX12_strike_41 : vm_at cX12_strike 41 (.aload_n 0) 1 42 ∧ ((0 : Fin 4) : Nat) = 0 := ⟨⟨vm_row tbX12_strike 26 rfl, rfl⟩, rfl⟩
theorem dX12_strike_42 : vm_at cX12_strike 42 (.getfield 197) 3 45 := ⟨vm_row tbX12_strike 27 rfl, rfl⟩
theorem dX12_strike_45 : vm_at cX12_strike 45 (.ireturn) 1 46 := ⟨vm_row tbX12_strike 28 rfl, rfl⟩
def tlX12_begin : List (Nat × Instr × Nat) := [(0, .aload_n 0, 1), (1, .getfield 197, 3), (4, .istore_n 1, 1), (5, .aload_n 0, 1), (6, .invokevirtual 185, 3), (9, .iload_n 1, 1), (10, .ireturn, 1)]
theorem tbX12_begin : vm_chk cX12_begin tlX12_begin = true := by decide +kernel
theorem dX12_begin_0 : vm_at cX12_begin 0 (.aload_n 0) 1 1 ∧ ((0 : Fin 4) : Nat) = 0 := ⟨⟨vm_row tbX12_begin 0 rfl, rfl⟩, rfl⟩
theorem dX12_begin_1 : vm_at cX12_begin 1 (.getfield 197) 3 4 := ⟨vm_row tbX12_begin 1 rfl, rfl⟩
theorem dX12_begin_4 : vm_at cX12_begin 4 (.istore_n 1) 1 5 ∧ ((1 : Fin 4) : Nat) = 1 := ⟨⟨vm_row tbX12_begin 2 rfl, rfl⟩, rfl⟩
theorem dX12_begin_5 : vm_at cX12_begin 5 (.aload_n 0) 1 6 ∧ ((0 : Fin 4) : Nat) = 0 := ⟨⟨vm_row tbX12_begin 3 rfl, rfl⟩, rfl⟩
theorem dX12_begin_6 : vm_at cX12_begin 6 (.invokevirtual 185) 3 9 := ⟨vm_row tbX12_begin 4 rfl, rfl⟩
theorem dX12_begin_9 : vm_at cX12_begin 9 (.iload_n 1) 1 10 ∧ ((1 : Fin 4) : Nat) = 1 := ⟨⟨vm_row tbX12_begin 5 rfl, rfl⟩, rfl⟩
theorem dX12_begin_10 : vm_at cX12_begin 10 (.ireturn) 1 11 := ⟨vm_row tbX12_begin 6 rfl, rfl⟩
def tlX12_layFewest : List (Nat × Instr × Nat) := [(0, .iconst 0, 1), (1, .istore_n 2, 1), (2, .iload_n 2, 1), (3, .bipush 100, 2), (5, .if_icmp .ge 16, 3), (8, .aload_n 0, 1), (9, .getfield 56, 3), (12, .iload_n 2, 1), (13, .iconst (-1), 1), (14, .iastore, 1), (15, .iinc 2 1, 3), (18, .goto (-16), 3), (21, .aload_n 0, 1), (22, .getfield 65, 3), (25, .ifCond .ne 4, 3), (28, .return_, 1), (29, .aload_n 0, 1), (30, .invokevirtual 229, 3), (33, .istore_n 2, 1), (34, .iconst 0, 1), (35, .istore_n 3, 1), (36, .iload_n 3, 1), (37, .aload_n 0, 1), (38, .invokevirtual 233, 3), (41, .if_icmp .ge 16, 3), (44, .aload_n 0, 1), (45, .getfield 44, 3), (48, .iload_n 3, 1), (49, .iconst (-1), 1), (50, .iastore, 1), (51, .iinc 3 1, 3), (54, .goto (-18), 3), (57, .iconst 1, 1), (58, .istore_n 3, 1), (59, .aload_n 0, 1), (60, .getfield 47, 3), (63, .iconst 0, 1), (64, .iload_n 2, 1), (65, .iastore, 1), (66, .aload_n 0, 1), (67, .getfield 44, 3), (70, .iload_n 2, 1), (71, .iconst 0, 1), (72, .iastore, 1), (73, .aload_n 0, 1), (74, .getfield 50, 3), (77, .iload_n 2, 1), (78, .iconst (-1), 1), (79, .iastore, 1), (80, .iconst 0, 1), (81, .istore 4, 2), (83, .iload 4, 2), (85, .iload_n 3, 1), (86, .if_icmp .ge 138, 3), (89, .aload_n 0, 1), (90, .getfield 47, 3), (93, .iload 4, 2), (95, .iaload, 1), (96, .istore 5, 2), (98, .aload_n 0, 1), (99, .iload 5, 2), (101, .invokevirtual 236, 3), (104, .istore 6, 2), (106, .aload_n 0, 1), (107, .getfield 56, 3), (110, .iload 6, 2), (112, .iaload, 1), (113, .iconst (-1), 1), (114, .if_icmp .ne 26, 3), (117, .aload_n 0, 1), (118, .getfield 56, 3), (121, .iload 6, 2), (123, .aload_n 0, 1), (124, .getfield 44, 3), (127, .iload 5, 2), (129, .iaload, 1), (130, .iastore, 1), (131, .aload_n 0, 1), (132, .getfield 59, 3), (135, .iload 6, 2), (137, .iload 5, 2), (139, .iastore, 1), (140, .iconst 0, 1), (141, .istore 7, 2), (143, .iload 7, 2), (145, .iload_n 1, 1), (146, .if_icmp .ge 72, 3), (149, .aload_n 0, 1), (150, .iload 5, 2), (152, .iload 7, 2), (154, .invokevirtual 239, 3), (157, .istore 8, 2), (159, .aload_n 0, 1), (160, .getfield 44, 3), (163, .iload 8, 2), (165, .iaload, 1), (166, .iconst (-1), 1), (167, .if_icmp .ne 45, 3), (170, .aload_n 0, 1), (171, .getfield 44, 3), (174, .iload 8, 2), (176, .aload_n 0, 1), (177, .getfield 44, 3), (180, .iload 5, 2), (182, .iaload, 1), (183, .iconst 1, 1), (184, .iadd, 1), (185, .iastore, 1), (186, .aload_n 0, 1), (187, .getfield 50, 3), (190, .iload 8, 2), (192, .ldc 43, 2), (194, .iload 7, 2), (196, .imul, 1), (197, .iload 5, 2), (199, .iadd, 1), (200, .iastore, 1), (201, .aload_n 0, 1), (202, .getfield 47, 3), (205, .iload_n 3, 1), (206, .iload 8, 2), (208, .iastore, 1), (209, .iinc 3 1, 3), (212, .iinc 7 1, 3), (215, .goto (-72), 3), (218, .iinc 4 1, 3), (221, .goto (-138), 3), (224, .aload_n 0, 1), (225, .iload_n 2, 1), (226, .invokevirtual 223, 3), (229, .return_, 1)]
theorem tbX12_layFewest : vm_chk cX12_layFewest tlX12_layFewest = true := by decide +kernel
theorem dX12_layFewest_0 : vm_at cX12_layFewest 0 (.iconst 0) 1 1 ∧ Int32.ofInt (0) = (0 : Int32) := ⟨⟨vm_row tbX12_layFewest 0 rfl, rfl⟩, z_iconst_0⟩
theorem dX12_layFewest_1 : vm_at cX12_layFewest 1 (.istore_n 2) 1 2 ∧ ((2 : Fin 4) : Nat) = 2 := ⟨⟨vm_row tbX12_layFewest 1 rfl, rfl⟩, rfl⟩
theorem dX12_layFewest_2 : vm_at cX12_layFewest 2 (.iload_n 2) 1 3 ∧ ((2 : Fin 4) : Nat) = 2 := ⟨⟨vm_row tbX12_layFewest 2 rfl, rfl⟩, rfl⟩
theorem dX12_layFewest_3 : vm_at cX12_layFewest 3 (.bipush 100) 2 5 ∧ (Int8.ofInt (100)).toInt32 = (100 : Int32) := ⟨⟨vm_row tbX12_layFewest 3 rfl, rfl⟩, z_bipush_100⟩
theorem dX12_layFewest_5 : vm_br cX12_layFewest 5 (.if_icmp .ge 16) 3 8 (16) 21 := ⟨vm_row tbX12_layFewest 4 rfl, rfl, rfl⟩
theorem dX12_layFewest_8 : vm_at cX12_layFewest 8 (.aload_n 0) 1 9 ∧ ((0 : Fin 4) : Nat) = 0 := ⟨⟨vm_row tbX12_layFewest 5 rfl, rfl⟩, rfl⟩
theorem dX12_layFewest_9 : vm_at cX12_layFewest 9 (.getfield 56) 3 12 := ⟨vm_row tbX12_layFewest 6 rfl, rfl⟩
theorem dX12_layFewest_12 : vm_at cX12_layFewest 12 (.iload_n 2) 1 13 ∧ ((2 : Fin 4) : Nat) = 2 := ⟨⟨vm_row tbX12_layFewest 7 rfl, rfl⟩, rfl⟩
theorem dX12_layFewest_13 : vm_at cX12_layFewest 13 (.iconst (-1)) 1 14 ∧ Int32.ofInt (-1) = (-1 : Int32) := ⟨⟨vm_row tbX12_layFewest 8 rfl, rfl⟩, z_iconst_m1⟩
theorem dX12_layFewest_14 : vm_at cX12_layFewest 14 (.iastore) 1 15 := ⟨vm_row tbX12_layFewest 9 rfl, rfl⟩
theorem dX12_layFewest_15 : vm_at cX12_layFewest 15 (.iinc 2 1) 3 18 ∧ Int32.ofInt (1) = (1 : Int32) := ⟨⟨vm_row tbX12_layFewest 10 rfl, rfl⟩, z_iconst_1⟩
theorem dX12_layFewest_18 : vm_br cX12_layFewest 18 (.goto (-16)) 3 21 (-16) 2 := ⟨vm_row tbX12_layFewest 11 rfl, rfl, rfl⟩
theorem dX12_layFewest_21 : vm_at cX12_layFewest 21 (.aload_n 0) 1 22 ∧ ((0 : Fin 4) : Nat) = 0 := ⟨⟨vm_row tbX12_layFewest 12 rfl, rfl⟩, rfl⟩
theorem dX12_layFewest_22 : vm_at cX12_layFewest 22 (.getfield 65) 3 25 := ⟨vm_row tbX12_layFewest 13 rfl, rfl⟩
theorem dX12_layFewest_25 : vm_br cX12_layFewest 25 (.ifCond .ne 4) 3 28 (4) 29 := ⟨vm_row tbX12_layFewest 14 rfl, rfl, rfl⟩
theorem dX12_layFewest_28 : vm_at cX12_layFewest 28 (.return_) 1 29 := ⟨vm_row tbX12_layFewest 15 rfl, rfl⟩
theorem dX12_layFewest_29 : vm_at cX12_layFewest 29 (.aload_n 0) 1 30 ∧ ((0 : Fin 4) : Nat) = 0 := ⟨⟨vm_row tbX12_layFewest 16 rfl, rfl⟩, rfl⟩
theorem dX12_layFewest_30 : vm_at cX12_layFewest 30 (.invokevirtual 229) 3 33 := ⟨vm_row tbX12_layFewest 17 rfl, rfl⟩
theorem dX12_layFewest_33 : vm_at cX12_layFewest 33 (.istore_n 2) 1 34 ∧ ((2 : Fin 4) : Nat) = 2 := ⟨⟨vm_row tbX12_layFewest 18 rfl, rfl⟩, rfl⟩
theorem dX12_layFewest_34 : vm_at cX12_layFewest 34 (.iconst 0) 1 35 ∧ Int32.ofInt (0) = (0 : Int32) := ⟨⟨vm_row tbX12_layFewest 19 rfl, rfl⟩, z_iconst_0⟩
theorem dX12_layFewest_35 : vm_at cX12_layFewest 35 (.istore_n 3) 1 36 ∧ ((3 : Fin 4) : Nat) = 3 := ⟨⟨vm_row tbX12_layFewest 20 rfl, rfl⟩, rfl⟩
theorem dX12_layFewest_36 : vm_at cX12_layFewest 36 (.iload_n 3) 1 37 ∧ ((3 : Fin 4) : Nat) = 3 := ⟨⟨vm_row tbX12_layFewest 21 rfl, rfl⟩, rfl⟩
theorem dX12_layFewest_37 : vm_at cX12_layFewest 37 (.aload_n 0) 1 38 ∧ ((0 : Fin 4) : Nat) = 0 := ⟨⟨vm_row tbX12_layFewest 22 rfl, rfl⟩, rfl⟩
theorem dX12_layFewest_38 : vm_at cX12_layFewest 38 (.invokevirtual 233) 3 41 := ⟨vm_row tbX12_layFewest 23 rfl, rfl⟩
theorem dX12_layFewest_41 : vm_br cX12_layFewest 41 (.if_icmp .ge 16) 3 44 (16) 57 := ⟨vm_row tbX12_layFewest 24 rfl, rfl, rfl⟩
theorem dX12_layFewest_44 : vm_at cX12_layFewest 44 (.aload_n 0) 1 45 ∧ ((0 : Fin 4) : Nat) = 0 := ⟨⟨vm_row tbX12_layFewest 25 rfl, rfl⟩, rfl⟩
theorem dX12_layFewest_45 : vm_at cX12_layFewest 45 (.getfield 44) 3 48 := ⟨vm_row tbX12_layFewest 26 rfl, rfl⟩
theorem dX12_layFewest_48 : vm_at cX12_layFewest 48 (.iload_n 3) 1 49 ∧ ((3 : Fin 4) : Nat) = 3 := ⟨⟨vm_row tbX12_layFewest 27 rfl, rfl⟩, rfl⟩
theorem dX12_layFewest_49 : vm_at cX12_layFewest 49 (.iconst (-1)) 1 50 ∧ Int32.ofInt (-1) = (-1 : Int32) := ⟨⟨vm_row tbX12_layFewest 28 rfl, rfl⟩, z_iconst_m1⟩
theorem dX12_layFewest_50 : vm_at cX12_layFewest 50 (.iastore) 1 51 := ⟨vm_row tbX12_layFewest 29 rfl, rfl⟩
theorem dX12_layFewest_51 : vm_at cX12_layFewest 51 (.iinc 3 1) 3 54 ∧ Int32.ofInt (1) = (1 : Int32) := ⟨⟨vm_row tbX12_layFewest 30 rfl, rfl⟩, z_iconst_1⟩
theorem dX12_layFewest_54 : vm_br cX12_layFewest 54 (.goto (-18)) 3 57 (-18) 36 := ⟨vm_row tbX12_layFewest 31 rfl, rfl, rfl⟩
theorem dX12_layFewest_57 : vm_at cX12_layFewest 57 (.iconst 1) 1 58 ∧ Int32.ofInt (1) = (1 : Int32) := ⟨⟨vm_row tbX12_layFewest 32 rfl, rfl⟩, z_iconst_1⟩
theorem dX12_layFewest_58 : vm_at cX12_layFewest 58 (.istore_n 3) 1 59 ∧ ((3 : Fin 4) : Nat) = 3 := ⟨⟨vm_row tbX12_layFewest 33 rfl, rfl⟩, rfl⟩
theorem dX12_layFewest_59 : vm_at cX12_layFewest 59 (.aload_n 0) 1 60 ∧ ((0 : Fin 4) : Nat) = 0 := ⟨⟨vm_row tbX12_layFewest 34 rfl, rfl⟩, rfl⟩
theorem dX12_layFewest_60 : vm_at cX12_layFewest 60 (.getfield 47) 3 63 := ⟨vm_row tbX12_layFewest 35 rfl, rfl⟩
theorem dX12_layFewest_63 : vm_at cX12_layFewest 63 (.iconst 0) 1 64 ∧ Int32.ofInt (0) = (0 : Int32) := ⟨⟨vm_row tbX12_layFewest 36 rfl, rfl⟩, z_iconst_0⟩
theorem dX12_layFewest_64 : vm_at cX12_layFewest 64 (.iload_n 2) 1 65 ∧ ((2 : Fin 4) : Nat) = 2 := ⟨⟨vm_row tbX12_layFewest 37 rfl, rfl⟩, rfl⟩
theorem dX12_layFewest_65 : vm_at cX12_layFewest 65 (.iastore) 1 66 := ⟨vm_row tbX12_layFewest 38 rfl, rfl⟩
theorem dX12_layFewest_66 : vm_at cX12_layFewest 66 (.aload_n 0) 1 67 ∧ ((0 : Fin 4) : Nat) = 0 := ⟨⟨vm_row tbX12_layFewest 39 rfl, rfl⟩, rfl⟩
theorem dX12_layFewest_67 : vm_at cX12_layFewest 67 (.getfield 44) 3 70 := ⟨vm_row tbX12_layFewest 40 rfl, rfl⟩
theorem dX12_layFewest_70 : vm_at cX12_layFewest 70 (.iload_n 2) 1 71 ∧ ((2 : Fin 4) : Nat) = 2 := ⟨⟨vm_row tbX12_layFewest 41 rfl, rfl⟩, rfl⟩
theorem dX12_layFewest_71 : vm_at cX12_layFewest 71 (.iconst 0) 1 72 ∧ Int32.ofInt (0) = (0 : Int32) := ⟨⟨vm_row tbX12_layFewest 42 rfl, rfl⟩, z_iconst_0⟩
theorem dX12_layFewest_72 : vm_at cX12_layFewest 72 (.iastore) 1 73 := ⟨vm_row tbX12_layFewest 43 rfl, rfl⟩
theorem dX12_layFewest_73 : vm_at cX12_layFewest 73 (.aload_n 0) 1 74 ∧ ((0 : Fin 4) : Nat) = 0 := ⟨⟨vm_row tbX12_layFewest 44 rfl, rfl⟩, rfl⟩
theorem dX12_layFewest_74 : vm_at cX12_layFewest 74 (.getfield 50) 3 77 := ⟨vm_row tbX12_layFewest 45 rfl, rfl⟩
theorem dX12_layFewest_77 : vm_at cX12_layFewest 77 (.iload_n 2) 1 78 ∧ ((2 : Fin 4) : Nat) = 2 := ⟨⟨vm_row tbX12_layFewest 46 rfl, rfl⟩, rfl⟩
theorem dX12_layFewest_78 : vm_at cX12_layFewest 78 (.iconst (-1)) 1 79 ∧ Int32.ofInt (-1) = (-1 : Int32) := ⟨⟨vm_row tbX12_layFewest 47 rfl, rfl⟩, z_iconst_m1⟩
theorem dX12_layFewest_79 : vm_at cX12_layFewest 79 (.iastore) 1 80 := ⟨vm_row tbX12_layFewest 48 rfl, rfl⟩
theorem dX12_layFewest_80 : vm_at cX12_layFewest 80 (.iconst 0) 1 81 ∧ Int32.ofInt (0) = (0 : Int32) := ⟨⟨vm_row tbX12_layFewest 49 rfl, rfl⟩, z_iconst_0⟩
theorem dX12_layFewest_81 : vm_at cX12_layFewest 81 (.istore 4) 2 83 := ⟨vm_row tbX12_layFewest 50 rfl, rfl⟩
theorem dX12_layFewest_83 : vm_at cX12_layFewest 83 (.iload 4) 2 85 := ⟨vm_row tbX12_layFewest 51 rfl, rfl⟩
theorem dX12_layFewest_85 : vm_at cX12_layFewest 85 (.iload_n 3) 1 86 ∧ ((3 : Fin 4) : Nat) = 3 := ⟨⟨vm_row tbX12_layFewest 52 rfl, rfl⟩, rfl⟩
theorem dX12_layFewest_86 : vm_br cX12_layFewest 86 (.if_icmp .ge 138) 3 89 (138) 224 := ⟨vm_row tbX12_layFewest 53 rfl, rfl, rfl⟩
theorem dX12_layFewest_89 : vm_at cX12_layFewest 89 (.aload_n 0) 1 90 ∧ ((0 : Fin 4) : Nat) = 0 := ⟨⟨vm_row tbX12_layFewest 54 rfl, rfl⟩, rfl⟩
theorem dX12_layFewest_90 : vm_at cX12_layFewest 90 (.getfield 47) 3 93 := ⟨vm_row tbX12_layFewest 55 rfl, rfl⟩
theorem dX12_layFewest_93 : vm_at cX12_layFewest 93 (.iload 4) 2 95 := ⟨vm_row tbX12_layFewest 56 rfl, rfl⟩
theorem dX12_layFewest_95 : vm_at cX12_layFewest 95 (.iaload) 1 96 := ⟨vm_row tbX12_layFewest 57 rfl, rfl⟩
theorem dX12_layFewest_96 : vm_at cX12_layFewest 96 (.istore 5) 2 98 := ⟨vm_row tbX12_layFewest 58 rfl, rfl⟩
theorem dX12_layFewest_98 : vm_at cX12_layFewest 98 (.aload_n 0) 1 99 ∧ ((0 : Fin 4) : Nat) = 0 := ⟨⟨vm_row tbX12_layFewest 59 rfl, rfl⟩, rfl⟩
theorem dX12_layFewest_99 : vm_at cX12_layFewest 99 (.iload 5) 2 101 := ⟨vm_row tbX12_layFewest 60 rfl, rfl⟩
theorem dX12_layFewest_101 : vm_at cX12_layFewest 101 (.invokevirtual 236) 3 104 := ⟨vm_row tbX12_layFewest 61 rfl, rfl⟩
theorem dX12_layFewest_104 : vm_at cX12_layFewest 104 (.istore 6) 2 106 := ⟨vm_row tbX12_layFewest 62 rfl, rfl⟩
theorem dX12_layFewest_106 : vm_at cX12_layFewest 106 (.aload_n 0) 1 107 ∧ ((0 : Fin 4) : Nat) = 0 := ⟨⟨vm_row tbX12_layFewest 63 rfl, rfl⟩, rfl⟩
theorem dX12_layFewest_107 : vm_at cX12_layFewest 107 (.getfield 56) 3 110 := ⟨vm_row tbX12_layFewest 64 rfl, rfl⟩
theorem dX12_layFewest_110 : vm_at cX12_layFewest 110 (.iload 6) 2 112 := ⟨vm_row tbX12_layFewest 65 rfl, rfl⟩
theorem dX12_layFewest_112 : vm_at cX12_layFewest 112 (.iaload) 1 113 := ⟨vm_row tbX12_layFewest 66 rfl, rfl⟩
theorem dX12_layFewest_113 : vm_at cX12_layFewest 113 (.iconst (-1)) 1 114 ∧ Int32.ofInt (-1) = (-1 : Int32) := ⟨⟨vm_row tbX12_layFewest 67 rfl, rfl⟩, z_iconst_m1⟩
theorem dX12_layFewest_114 : vm_br cX12_layFewest 114 (.if_icmp .ne 26) 3 117 (26) 140 := ⟨vm_row tbX12_layFewest 68 rfl, rfl, rfl⟩
theorem dX12_layFewest_117 : vm_at cX12_layFewest 117 (.aload_n 0) 1 118 ∧ ((0 : Fin 4) : Nat) = 0 := ⟨⟨vm_row tbX12_layFewest 69 rfl, rfl⟩, rfl⟩
theorem dX12_layFewest_118 : vm_at cX12_layFewest 118 (.getfield 56) 3 121 := ⟨vm_row tbX12_layFewest 70 rfl, rfl⟩
theorem dX12_layFewest_121 : vm_at cX12_layFewest 121 (.iload 6) 2 123 := ⟨vm_row tbX12_layFewest 71 rfl, rfl⟩
theorem dX12_layFewest_123 : vm_at cX12_layFewest 123 (.aload_n 0) 1 124 ∧ ((0 : Fin 4) : Nat) = 0 := ⟨⟨vm_row tbX12_layFewest 72 rfl, rfl⟩, rfl⟩
theorem dX12_layFewest_124 : vm_at cX12_layFewest 124 (.getfield 44) 3 127 := ⟨vm_row tbX12_layFewest 73 rfl, rfl⟩
theorem dX12_layFewest_127 : vm_at cX12_layFewest 127 (.iload 5) 2 129 := ⟨vm_row tbX12_layFewest 74 rfl, rfl⟩
theorem dX12_layFewest_129 : vm_at cX12_layFewest 129 (.iaload) 1 130 := ⟨vm_row tbX12_layFewest 75 rfl, rfl⟩
theorem dX12_layFewest_130 : vm_at cX12_layFewest 130 (.iastore) 1 131 := ⟨vm_row tbX12_layFewest 76 rfl, rfl⟩
theorem dX12_layFewest_131 : vm_at cX12_layFewest 131 (.aload_n 0) 1 132 ∧ ((0 : Fin 4) : Nat) = 0 := ⟨⟨vm_row tbX12_layFewest 77 rfl, rfl⟩, rfl⟩
theorem dX12_layFewest_132 : vm_at cX12_layFewest 132 (.getfield 59) 3 135 := ⟨vm_row tbX12_layFewest 78 rfl, rfl⟩
theorem dX12_layFewest_135 : vm_at cX12_layFewest 135 (.iload 6) 2 137 := ⟨vm_row tbX12_layFewest 79 rfl, rfl⟩
theorem dX12_layFewest_137 : vm_at cX12_layFewest 137 (.iload 5) 2 139 := ⟨vm_row tbX12_layFewest 80 rfl, rfl⟩
theorem dX12_layFewest_139 : vm_at cX12_layFewest 139 (.iastore) 1 140 := ⟨vm_row tbX12_layFewest 81 rfl, rfl⟩
theorem dX12_layFewest_140 : vm_at cX12_layFewest 140 (.iconst 0) 1 141 ∧ Int32.ofInt (0) = (0 : Int32) := ⟨⟨vm_row tbX12_layFewest 82 rfl, rfl⟩, z_iconst_0⟩
theorem dX12_layFewest_141 : vm_at cX12_layFewest 141 (.istore 7) 2 143 := ⟨vm_row tbX12_layFewest 83 rfl, rfl⟩
theorem dX12_layFewest_143 : vm_at cX12_layFewest 143 (.iload 7) 2 145 := ⟨vm_row tbX12_layFewest 84 rfl, rfl⟩
theorem dX12_layFewest_145 : vm_at cX12_layFewest 145 (.iload_n 1) 1 146 ∧ ((1 : Fin 4) : Nat) = 1 := ⟨⟨vm_row tbX12_layFewest 85 rfl, rfl⟩, rfl⟩
theorem dX12_layFewest_146 : vm_br cX12_layFewest 146 (.if_icmp .ge 72) 3 149 (72) 218 := ⟨vm_row tbX12_layFewest 86 rfl, rfl, rfl⟩
theorem dX12_layFewest_149 : vm_at cX12_layFewest 149 (.aload_n 0) 1 150 ∧ ((0 : Fin 4) : Nat) = 0 := ⟨⟨vm_row tbX12_layFewest 87 rfl, rfl⟩, rfl⟩
theorem dX12_layFewest_150 : vm_at cX12_layFewest 150 (.iload 5) 2 152 := ⟨vm_row tbX12_layFewest 88 rfl, rfl⟩
theorem dX12_layFewest_152 : vm_at cX12_layFewest 152 (.iload 7) 2 154 := ⟨vm_row tbX12_layFewest 89 rfl, rfl⟩
theorem dX12_layFewest_154 : vm_at cX12_layFewest 154 (.invokevirtual 239) 3 157 := ⟨vm_row tbX12_layFewest 90 rfl, rfl⟩
theorem dX12_layFewest_157 : vm_at cX12_layFewest 157 (.istore 8) 2 159 := ⟨vm_row tbX12_layFewest 91 rfl, rfl⟩
theorem dX12_layFewest_159 : vm_at cX12_layFewest 159 (.aload_n 0) 1 160 ∧ ((0 : Fin 4) : Nat) = 0 := ⟨⟨vm_row tbX12_layFewest 92 rfl, rfl⟩, rfl⟩
theorem dX12_layFewest_160 : vm_at cX12_layFewest 160 (.getfield 44) 3 163 := ⟨vm_row tbX12_layFewest 93 rfl, rfl⟩
theorem dX12_layFewest_163 : vm_at cX12_layFewest 163 (.iload 8) 2 165 := ⟨vm_row tbX12_layFewest 94 rfl, rfl⟩
theorem dX12_layFewest_165 : vm_at cX12_layFewest 165 (.iaload) 1 166 := ⟨vm_row tbX12_layFewest 95 rfl, rfl⟩
theorem dX12_layFewest_166 : vm_at cX12_layFewest 166 (.iconst (-1)) 1 167 ∧ Int32.ofInt (-1) = (-1 : Int32) := ⟨⟨vm_row tbX12_layFewest 96 rfl, rfl⟩, z_iconst_m1⟩
theorem dX12_layFewest_167 : vm_br cX12_layFewest 167 (.if_icmp .ne 45) 3 170 (45) 212 := ⟨vm_row tbX12_layFewest 97 rfl, rfl, rfl⟩
theorem dX12_layFewest_170 : vm_at cX12_layFewest 170 (.aload_n 0) 1 171 ∧ ((0 : Fin 4) : Nat) = 0 := ⟨⟨vm_row tbX12_layFewest 98 rfl, rfl⟩, rfl⟩
theorem dX12_layFewest_171 : vm_at cX12_layFewest 171 (.getfield 44) 3 174 := ⟨vm_row tbX12_layFewest 99 rfl, rfl⟩
theorem dX12_layFewest_174 : vm_at cX12_layFewest 174 (.iload 8) 2 176 := ⟨vm_row tbX12_layFewest 100 rfl, rfl⟩
theorem dX12_layFewest_176 : vm_at cX12_layFewest 176 (.aload_n 0) 1 177 ∧ ((0 : Fin 4) : Nat) = 0 := ⟨⟨vm_row tbX12_layFewest 101 rfl, rfl⟩, rfl⟩
theorem dX12_layFewest_177 : vm_at cX12_layFewest 177 (.getfield 44) 3 180 := ⟨vm_row tbX12_layFewest 102 rfl, rfl⟩
theorem dX12_layFewest_180 : vm_at cX12_layFewest 180 (.iload 5) 2 182 := ⟨vm_row tbX12_layFewest 103 rfl, rfl⟩
theorem dX12_layFewest_182 : vm_at cX12_layFewest 182 (.iaload) 1 183 := ⟨vm_row tbX12_layFewest 104 rfl, rfl⟩
theorem dX12_layFewest_183 : vm_at cX12_layFewest 183 (.iconst 1) 1 184 ∧ Int32.ofInt (1) = (1 : Int32) := ⟨⟨vm_row tbX12_layFewest 105 rfl, rfl⟩, z_iconst_1⟩
theorem dX12_layFewest_184 : vm_at cX12_layFewest 184 (.iadd) 1 185 := ⟨vm_row tbX12_layFewest 106 rfl, rfl⟩
theorem dX12_layFewest_185 : vm_at cX12_layFewest 185 (.iastore) 1 186 := ⟨vm_row tbX12_layFewest 107 rfl, rfl⟩
theorem dX12_layFewest_186 : vm_at cX12_layFewest 186 (.aload_n 0) 1 187 ∧ ((0 : Fin 4) : Nat) = 0 := ⟨⟨vm_row tbX12_layFewest 108 rfl, rfl⟩, rfl⟩
theorem dX12_layFewest_187 : vm_at cX12_layFewest 187 (.getfield 50) 3 190 := ⟨vm_row tbX12_layFewest 109 rfl, rfl⟩
theorem dX12_layFewest_190 : vm_at cX12_layFewest 190 (.iload 8) 2 192 := ⟨vm_row tbX12_layFewest 110 rfl, rfl⟩
theorem dX12_layFewest_192 : vm_at cX12_layFewest 192 (.ldc 43) 2 194 := ⟨vm_row tbX12_layFewest 111 rfl, rfl⟩
theorem dX12_layFewest_194 : vm_at cX12_layFewest 194 (.iload 7) 2 196 := ⟨vm_row tbX12_layFewest 112 rfl, rfl⟩
theorem dX12_layFewest_196 : vm_at cX12_layFewest 196 (.imul) 1 197 := ⟨vm_row tbX12_layFewest 113 rfl, rfl⟩
theorem dX12_layFewest_197 : vm_at cX12_layFewest 197 (.iload 5) 2 199 := ⟨vm_row tbX12_layFewest 114 rfl, rfl⟩
theorem dX12_layFewest_199 : vm_at cX12_layFewest 199 (.iadd) 1 200 := ⟨vm_row tbX12_layFewest 115 rfl, rfl⟩
theorem dX12_layFewest_200 : vm_at cX12_layFewest 200 (.iastore) 1 201 := ⟨vm_row tbX12_layFewest 116 rfl, rfl⟩
theorem dX12_layFewest_201 : vm_at cX12_layFewest 201 (.aload_n 0) 1 202 ∧ ((0 : Fin 4) : Nat) = 0 := ⟨⟨vm_row tbX12_layFewest 117 rfl, rfl⟩, rfl⟩
theorem dX12_layFewest_202 : vm_at cX12_layFewest 202 (.getfield 47) 3 205 := ⟨vm_row tbX12_layFewest 118 rfl, rfl⟩
theorem dX12_layFewest_205 : vm_at cX12_layFewest 205 (.iload_n 3) 1 206 ∧ ((3 : Fin 4) : Nat) = 3 := ⟨⟨vm_row tbX12_layFewest 119 rfl, rfl⟩, rfl⟩
theorem dX12_layFewest_206 : vm_at cX12_layFewest 206 (.iload 8) 2 208 := ⟨vm_row tbX12_layFewest 120 rfl, rfl⟩
theorem dX12_layFewest_208 : vm_at cX12_layFewest 208 (.iastore) 1 209 := ⟨vm_row tbX12_layFewest 121 rfl, rfl⟩
theorem dX12_layFewest_209 : vm_at cX12_layFewest 209 (.iinc 3 1) 3 212 ∧ Int32.ofInt (1) = (1 : Int32) := ⟨⟨vm_row tbX12_layFewest 122 rfl, rfl⟩, z_iconst_1⟩
theorem dX12_layFewest_212 : vm_at cX12_layFewest 212 (.iinc 7 1) 3 215 ∧ Int32.ofInt (1) = (1 : Int32) := ⟨⟨vm_row tbX12_layFewest 123 rfl, rfl⟩, z_iconst_1⟩
theorem dX12_layFewest_215 : vm_br cX12_layFewest 215 (.goto (-72)) 3 218 (-72) 143 := ⟨vm_row tbX12_layFewest 124 rfl, rfl, rfl⟩
theorem dX12_layFewest_218 : vm_at cX12_layFewest 218 (.iinc 4 1) 3 221 ∧ Int32.ofInt (1) = (1 : Int32) := ⟨⟨vm_row tbX12_layFewest 125 rfl, rfl⟩, z_iconst_1⟩
theorem dX12_layFewest_221 : vm_br cX12_layFewest 221 (.goto (-138)) 3 224 (-138) 83 := ⟨vm_row tbX12_layFewest 126 rfl, rfl, rfl⟩
theorem dX12_layFewest_224 : vm_at cX12_layFewest 224 (.aload_n 0) 1 225 ∧ ((0 : Fin 4) : Nat) = 0 := ⟨⟨vm_row tbX12_layFewest 127 rfl, rfl⟩, rfl⟩
theorem dX12_layFewest_225 : vm_at cX12_layFewest 225 (.iload_n 2) 1 226 ∧ ((2 : Fin 4) : Nat) = 2 := ⟨⟨vm_row tbX12_layFewest 128 rfl, rfl⟩, rfl⟩
theorem dX12_layFewest_226 : vm_at cX12_layFewest 226 (.invokevirtual 223) 3 229 := ⟨vm_row tbX12_layFewest 129 rfl, rfl⟩
theorem dX12_layFewest_229 : vm_at cX12_layFewest 229 (.return_) 1 230 := ⟨vm_row tbX12_layFewest 130 rfl, rfl⟩
def tlX12_fewest : List (Nat × Instr × Nat) := [(0, .aload_n 0, 1), (1, .iload_n 1, 1), (2, .invokevirtual 243, 3), (5, .ifCond .ne 6, 3), (8, .ldc 72, 2), (10, .ireturn, 1), (11, .aload_n 0, 1), (12, .aload_n 0, 1), (13, .getfield 182, 3), (16, .invokevirtual 246, 3), (19, .aload_n 0, 1), (20, .getfield 56, 3), (23, .iload_n 1, 1), (24, .iaload, 1), (25, .ireturn, 1)]
theorem tbX12_fewest : vm_chk cX12_fewest tlX12_fewest = true := by decide +kernel
theorem dX12_fewest_0 : vm_at cX12_fewest 0 (.aload_n 0) 1 1 ∧ ((0 : Fin 4) : Nat) = 0 := ⟨⟨vm_row tbX12_fewest 0 rfl, rfl⟩, rfl⟩
theorem dX12_fewest_1 : vm_at cX12_fewest 1 (.iload_n 1) 1 2 ∧ ((1 : Fin 4) : Nat) = 1 := ⟨⟨vm_row tbX12_fewest 1 rfl, rfl⟩, rfl⟩
theorem dX12_fewest_2 : vm_at cX12_fewest 2 (.invokevirtual 243) 3 5 := ⟨vm_row tbX12_fewest 2 rfl, rfl⟩
theorem dX12_fewest_5 : vm_br cX12_fewest 5 (.ifCond .ne 6) 3 8 (6) 11 := ⟨vm_row tbX12_fewest 3 rfl, rfl, rfl⟩
theorem dX12_fewest_8 : vm_at cX12_fewest 8 (.ldc 72) 2 10 := ⟨vm_row tbX12_fewest 4 rfl, rfl⟩
theorem dX12_fewest_10 : vm_at cX12_fewest 10 (.ireturn) 1 11 := ⟨vm_row tbX12_fewest 5 rfl, rfl⟩
theorem dX12_fewest_11 : vm_at cX12_fewest 11 (.aload_n 0) 1 12 ∧ ((0 : Fin 4) : Nat) = 0 := ⟨⟨vm_row tbX12_fewest 6 rfl, rfl⟩, rfl⟩
theorem dX12_fewest_12 : vm_at cX12_fewest 12 (.aload_n 0) 1 13 ∧ ((0 : Fin 4) : Nat) = 0 := ⟨⟨vm_row tbX12_fewest 7 rfl, rfl⟩, rfl⟩
theorem dX12_fewest_13 : vm_at cX12_fewest 13 (.getfield 182) 3 16 := ⟨vm_row tbX12_fewest 8 rfl, rfl⟩
theorem dX12_fewest_16 : vm_at cX12_fewest 16 (.invokevirtual 246) 3 19 := ⟨vm_row tbX12_fewest 9 rfl, rfl⟩
theorem dX12_fewest_19 : vm_at cX12_fewest 19 (.aload_n 0) 1 20 ∧ ((0 : Fin 4) : Nat) = 0 := ⟨⟨vm_row tbX12_fewest 10 rfl, rfl⟩, rfl⟩
theorem dX12_fewest_20 : vm_at cX12_fewest 20 (.getfield 56) 3 23 := ⟨vm_row tbX12_fewest 11 rfl, rfl⟩
theorem dX12_fewest_23 : vm_at cX12_fewest 23 (.iload_n 1) 1 24 ∧ ((1 : Fin 4) : Nat) = 1 := ⟨⟨vm_row tbX12_fewest 12 rfl, rfl⟩, rfl⟩
theorem dX12_fewest_24 : vm_at cX12_fewest 24 (.iaload) 1 25 := ⟨vm_row tbX12_fewest 13 rfl, rfl⟩
theorem dX12_fewest_25 : vm_at cX12_fewest 25 (.ireturn) 1 26 := ⟨vm_row tbX12_fewest 14 rfl, rfl⟩
def tlX12_way : List (Nat × Instr × Nat) := [(0, .aload_n 0, 1), (1, .iload_n 1, 1), (2, .invokevirtual 243, 3), (5, .ifCond .ne 6, 3), (8, .ldc 72, 2), (10, .ireturn, 1), (11, .aload_n 0, 1), (12, .aload_n 0, 1), (13, .getfield 182, 3), (16, .invokevirtual 246, 3), (19, .iload_n 2, 1), (20, .ifCond .lt 13, 3), (23, .iload_n 2, 1), (24, .aload_n 0, 1), (25, .getfield 56, 3), (28, .iload_n 1, 1), (29, .iaload, 1), (30, .if_icmp .lt 5, 3), (33, .iconst (-1), 1), (34, .ireturn, 1), (35, .aload_n 0, 1), (36, .getfield 59, 3), (39, .iload_n 1, 1), (40, .iaload, 1), (41, .istore_n 3, 1), (42, .aload_n 0, 1), (43, .getfield 44, 3), (46, .iload_n 3, 1), (47, .iaload, 1), (48, .iload_n 2, 1), (49, .iconst 1, 1), (50, .iadd, 1), (51, .if_icmp .le 16, 3), (54, .aload_n 0, 1), (55, .getfield 50, 3), (58, .iload_n 3, 1), (59, .iaload, 1), (60, .ldc 43, 2), (62, .irem, 1), (63, .istore_n 3, 1), (64, .goto (-22), 3), (67, .aload_n 0, 1), (68, .getfield 50, 3), (71, .iload_n 3, 1), (72, .iaload, 1), (73, .ldc 43, 2), (75, .idiv, 1), (76, .ireturn, 1)]
theorem tbX12_way : vm_chk cX12_way tlX12_way = true := by decide +kernel
theorem dX12_way_0 : vm_at cX12_way 0 (.aload_n 0) 1 1 ∧ ((0 : Fin 4) : Nat) = 0 := ⟨⟨vm_row tbX12_way 0 rfl, rfl⟩, rfl⟩
theorem dX12_way_1 : vm_at cX12_way 1 (.iload_n 1) 1 2 ∧ ((1 : Fin 4) : Nat) = 1 := ⟨⟨vm_row tbX12_way 1 rfl, rfl⟩, rfl⟩
theorem dX12_way_2 : vm_at cX12_way 2 (.invokevirtual 243) 3 5 := ⟨vm_row tbX12_way 2 rfl, rfl⟩
theorem dX12_way_5 : vm_br cX12_way 5 (.ifCond .ne 6) 3 8 (6) 11 := ⟨vm_row tbX12_way 3 rfl, rfl, rfl⟩
theorem dX12_way_8 : vm_at cX12_way 8 (.ldc 72) 2 10 := ⟨vm_row tbX12_way 4 rfl, rfl⟩
theorem dX12_way_10 : vm_at cX12_way 10 (.ireturn) 1 11 := ⟨vm_row tbX12_way 5 rfl, rfl⟩
theorem dX12_way_11 : vm_at cX12_way 11 (.aload_n 0) 1 12 ∧ ((0 : Fin 4) : Nat) = 0 := ⟨⟨vm_row tbX12_way 6 rfl, rfl⟩, rfl⟩
theorem dX12_way_12 : vm_at cX12_way 12 (.aload_n 0) 1 13 ∧ ((0 : Fin 4) : Nat) = 0 := ⟨⟨vm_row tbX12_way 7 rfl, rfl⟩, rfl⟩
theorem dX12_way_13 : vm_at cX12_way 13 (.getfield 182) 3 16 := ⟨vm_row tbX12_way 8 rfl, rfl⟩
theorem dX12_way_16 : vm_at cX12_way 16 (.invokevirtual 246) 3 19 := ⟨vm_row tbX12_way 9 rfl, rfl⟩
theorem dX12_way_19 : vm_at cX12_way 19 (.iload_n 2) 1 20 ∧ ((2 : Fin 4) : Nat) = 2 := ⟨⟨vm_row tbX12_way 10 rfl, rfl⟩, rfl⟩
theorem dX12_way_20 : vm_br cX12_way 20 (.ifCond .lt 13) 3 23 (13) 33 := ⟨vm_row tbX12_way 11 rfl, rfl, rfl⟩
theorem dX12_way_23 : vm_at cX12_way 23 (.iload_n 2) 1 24 ∧ ((2 : Fin 4) : Nat) = 2 := ⟨⟨vm_row tbX12_way 12 rfl, rfl⟩, rfl⟩
theorem dX12_way_24 : vm_at cX12_way 24 (.aload_n 0) 1 25 ∧ ((0 : Fin 4) : Nat) = 0 := ⟨⟨vm_row tbX12_way 13 rfl, rfl⟩, rfl⟩
theorem dX12_way_25 : vm_at cX12_way 25 (.getfield 56) 3 28 := ⟨vm_row tbX12_way 14 rfl, rfl⟩
theorem dX12_way_28 : vm_at cX12_way 28 (.iload_n 1) 1 29 ∧ ((1 : Fin 4) : Nat) = 1 := ⟨⟨vm_row tbX12_way 15 rfl, rfl⟩, rfl⟩
theorem dX12_way_29 : vm_at cX12_way 29 (.iaload) 1 30 := ⟨vm_row tbX12_way 16 rfl, rfl⟩
theorem dX12_way_30 : vm_br cX12_way 30 (.if_icmp .lt 5) 3 33 (5) 35 := ⟨vm_row tbX12_way 17 rfl, rfl, rfl⟩
theorem dX12_way_33 : vm_at cX12_way 33 (.iconst (-1)) 1 34 ∧ Int32.ofInt (-1) = (-1 : Int32) := ⟨⟨vm_row tbX12_way 18 rfl, rfl⟩, z_iconst_m1⟩
theorem dX12_way_34 : vm_at cX12_way 34 (.ireturn) 1 35 := ⟨vm_row tbX12_way 19 rfl, rfl⟩
theorem dX12_way_35 : vm_at cX12_way 35 (.aload_n 0) 1 36 ∧ ((0 : Fin 4) : Nat) = 0 := ⟨⟨vm_row tbX12_way 20 rfl, rfl⟩, rfl⟩
theorem dX12_way_36 : vm_at cX12_way 36 (.getfield 59) 3 39 := ⟨vm_row tbX12_way 21 rfl, rfl⟩
theorem dX12_way_39 : vm_at cX12_way 39 (.iload_n 1) 1 40 ∧ ((1 : Fin 4) : Nat) = 1 := ⟨⟨vm_row tbX12_way 22 rfl, rfl⟩, rfl⟩
theorem dX12_way_40 : vm_at cX12_way 40 (.iaload) 1 41 := ⟨vm_row tbX12_way 23 rfl, rfl⟩
theorem dX12_way_41 : vm_at cX12_way 41 (.istore_n 3) 1 42 ∧ ((3 : Fin 4) : Nat) = 3 := ⟨⟨vm_row tbX12_way 24 rfl, rfl⟩, rfl⟩
theorem dX12_way_42 : vm_at cX12_way 42 (.aload_n 0) 1 43 ∧ ((0 : Fin 4) : Nat) = 0 := ⟨⟨vm_row tbX12_way 25 rfl, rfl⟩, rfl⟩
theorem dX12_way_43 : vm_at cX12_way 43 (.getfield 44) 3 46 := ⟨vm_row tbX12_way 26 rfl, rfl⟩
theorem dX12_way_46 : vm_at cX12_way 46 (.iload_n 3) 1 47 ∧ ((3 : Fin 4) : Nat) = 3 := ⟨⟨vm_row tbX12_way 27 rfl, rfl⟩, rfl⟩
theorem dX12_way_47 : vm_at cX12_way 47 (.iaload) 1 48 := ⟨vm_row tbX12_way 28 rfl, rfl⟩
theorem dX12_way_48 : vm_at cX12_way 48 (.iload_n 2) 1 49 ∧ ((2 : Fin 4) : Nat) = 2 := ⟨⟨vm_row tbX12_way 29 rfl, rfl⟩, rfl⟩
theorem dX12_way_49 : vm_at cX12_way 49 (.iconst 1) 1 50 ∧ Int32.ofInt (1) = (1 : Int32) := ⟨⟨vm_row tbX12_way 30 rfl, rfl⟩, z_iconst_1⟩
theorem dX12_way_50 : vm_at cX12_way 50 (.iadd) 1 51 := ⟨vm_row tbX12_way 31 rfl, rfl⟩
theorem dX12_way_51 : vm_br cX12_way 51 (.if_icmp .le 16) 3 54 (16) 67 := ⟨vm_row tbX12_way 32 rfl, rfl, rfl⟩
theorem dX12_way_54 : vm_at cX12_way 54 (.aload_n 0) 1 55 ∧ ((0 : Fin 4) : Nat) = 0 := ⟨⟨vm_row tbX12_way 33 rfl, rfl⟩, rfl⟩
theorem dX12_way_55 : vm_at cX12_way 55 (.getfield 50) 3 58 := ⟨vm_row tbX12_way 34 rfl, rfl⟩
theorem dX12_way_58 : vm_at cX12_way 58 (.iload_n 3) 1 59 ∧ ((3 : Fin 4) : Nat) = 3 := ⟨⟨vm_row tbX12_way 35 rfl, rfl⟩, rfl⟩
theorem dX12_way_59 : vm_at cX12_way 59 (.iaload) 1 60 := ⟨vm_row tbX12_way 36 rfl, rfl⟩
theorem dX12_way_60 : vm_at cX12_way 60 (.ldc 43) 2 62 := ⟨vm_row tbX12_way 37 rfl, rfl⟩
theorem dX12_way_62 : vm_at cX12_way 62 (.irem) 1 63 := ⟨vm_row tbX12_way 38 rfl, rfl⟩
theorem dX12_way_63 : vm_at cX12_way 63 (.istore_n 3) 1 64 ∧ ((3 : Fin 4) : Nat) = 3 := ⟨⟨vm_row tbX12_way 39 rfl, rfl⟩, rfl⟩
theorem dX12_way_64 : vm_br cX12_way 64 (.goto (-22)) 3 67 (-22) 42 := ⟨vm_row tbX12_way 40 rfl, rfl, rfl⟩
theorem dX12_way_67 : vm_at cX12_way 67 (.aload_n 0) 1 68 ∧ ((0 : Fin 4) : Nat) = 0 := ⟨⟨vm_row tbX12_way 41 rfl, rfl⟩, rfl⟩
theorem dX12_way_68 : vm_at cX12_way 68 (.getfield 50) 3 71 := ⟨vm_row tbX12_way 42 rfl, rfl⟩
theorem dX12_way_71 : vm_at cX12_way 71 (.iload_n 3) 1 72 ∧ ((3 : Fin 4) : Nat) = 3 := ⟨⟨vm_row tbX12_way 43 rfl, rfl⟩, rfl⟩
theorem dX12_way_72 : vm_at cX12_way 72 (.iaload) 1 73 := ⟨vm_row tbX12_way 44 rfl, rfl⟩
theorem dX12_way_73 : vm_at cX12_way 73 (.ldc 43) 2 75 := ⟨vm_row tbX12_way 45 rfl, rfl⟩
theorem dX12_way_75 : vm_at cX12_way 75 (.idiv) 1 76 := ⟨vm_row tbX12_way 46 rfl, rfl⟩
theorem dX12_way_76 : vm_at cX12_way 76 (.ireturn) 1 77 := ⟨vm_row tbX12_way 47 rfl, rfl⟩
def tlX12_putIn : List (Nat × Instr × Nat) := [(0, .aload_n 0, 1), (1, .getfield 44, 3), (4, .iload_n 1, 1), (5, .iaload, 1), (6, .bipush 100, 2), (8, .irem, 1), (9, .istore_n 2, 1), (10, .aload_n 0, 1), (11, .getfield 47, 3), (14, .iload_n 1, 1), (15, .aload_n 0, 1), (16, .getfield 62, 3), (19, .iload_n 2, 1), (20, .iaload, 1), (21, .iastore, 1), (22, .aload_n 0, 1), (23, .getfield 53, 3), (26, .iload_n 1, 1), (27, .iconst (-1), 1), (28, .iastore, 1), (29, .aload_n 0, 1), (30, .getfield 62, 3), (33, .iload_n 2, 1), (34, .iaload, 1), (35, .iconst (-1), 1), (36, .if_icmp .eq 15, 3), (39, .aload_n 0, 1), (40, .getfield 53, 3), (43, .aload_n 0, 1), (44, .getfield 62, 3), (47, .iload_n 2, 1), (48, .iaload, 1), (49, .iload_n 1, 1), (50, .iastore, 1), (51, .aload_n 0, 1), (52, .getfield 62, 3), (55, .iload_n 2, 1), (56, .iload_n 1, 1), (57, .iastore, 1), (58, .return_, 1)]
theorem tbX12_putIn : vm_chk cX12_putIn tlX12_putIn = true := by decide +kernel
theorem dX12_putIn_0 : vm_at cX12_putIn 0 (.aload_n 0) 1 1 ∧ ((0 : Fin 4) : Nat) = 0 := ⟨⟨vm_row tbX12_putIn 0 rfl, rfl⟩, rfl⟩
theorem dX12_putIn_1 : vm_at cX12_putIn 1 (.getfield 44) 3 4 := ⟨vm_row tbX12_putIn 1 rfl, rfl⟩
theorem dX12_putIn_4 : vm_at cX12_putIn 4 (.iload_n 1) 1 5 ∧ ((1 : Fin 4) : Nat) = 1 := ⟨⟨vm_row tbX12_putIn 2 rfl, rfl⟩, rfl⟩
theorem dX12_putIn_5 : vm_at cX12_putIn 5 (.iaload) 1 6 := ⟨vm_row tbX12_putIn 3 rfl, rfl⟩
theorem dX12_putIn_6 : vm_at cX12_putIn 6 (.bipush 100) 2 8 ∧ (Int8.ofInt (100)).toInt32 = (100 : Int32) := ⟨⟨vm_row tbX12_putIn 4 rfl, rfl⟩, z_bipush_100⟩
theorem dX12_putIn_8 : vm_at cX12_putIn 8 (.irem) 1 9 := ⟨vm_row tbX12_putIn 5 rfl, rfl⟩
theorem dX12_putIn_9 : vm_at cX12_putIn 9 (.istore_n 2) 1 10 ∧ ((2 : Fin 4) : Nat) = 2 := ⟨⟨vm_row tbX12_putIn 6 rfl, rfl⟩, rfl⟩
theorem dX12_putIn_10 : vm_at cX12_putIn 10 (.aload_n 0) 1 11 ∧ ((0 : Fin 4) : Nat) = 0 := ⟨⟨vm_row tbX12_putIn 7 rfl, rfl⟩, rfl⟩
theorem dX12_putIn_11 : vm_at cX12_putIn 11 (.getfield 47) 3 14 := ⟨vm_row tbX12_putIn 8 rfl, rfl⟩
theorem dX12_putIn_14 : vm_at cX12_putIn 14 (.iload_n 1) 1 15 ∧ ((1 : Fin 4) : Nat) = 1 := ⟨⟨vm_row tbX12_putIn 9 rfl, rfl⟩, rfl⟩
theorem dX12_putIn_15 : vm_at cX12_putIn 15 (.aload_n 0) 1 16 ∧ ((0 : Fin 4) : Nat) = 0 := ⟨⟨vm_row tbX12_putIn 10 rfl, rfl⟩, rfl⟩
theorem dX12_putIn_16 : vm_at cX12_putIn 16 (.getfield 62) 3 19 := ⟨vm_row tbX12_putIn 11 rfl, rfl⟩
theorem dX12_putIn_19 : vm_at cX12_putIn 19 (.iload_n 2) 1 20 ∧ ((2 : Fin 4) : Nat) = 2 := ⟨⟨vm_row tbX12_putIn 12 rfl, rfl⟩, rfl⟩
theorem dX12_putIn_20 : vm_at cX12_putIn 20 (.iaload) 1 21 := ⟨vm_row tbX12_putIn 13 rfl, rfl⟩
theorem dX12_putIn_21 : vm_at cX12_putIn 21 (.iastore) 1 22 := ⟨vm_row tbX12_putIn 14 rfl, rfl⟩
theorem dX12_putIn_22 : vm_at cX12_putIn 22 (.aload_n 0) 1 23 ∧ ((0 : Fin 4) : Nat) = 0 := ⟨⟨vm_row tbX12_putIn 15 rfl, rfl⟩, rfl⟩
theorem dX12_putIn_23 : vm_at cX12_putIn 23 (.getfield 53) 3 26 := ⟨vm_row tbX12_putIn 16 rfl, rfl⟩
theorem dX12_putIn_26 : vm_at cX12_putIn 26 (.iload_n 1) 1 27 ∧ ((1 : Fin 4) : Nat) = 1 := ⟨⟨vm_row tbX12_putIn 17 rfl, rfl⟩, rfl⟩
theorem dX12_putIn_27 : vm_at cX12_putIn 27 (.iconst (-1)) 1 28 ∧ Int32.ofInt (-1) = (-1 : Int32) := ⟨⟨vm_row tbX12_putIn 18 rfl, rfl⟩, z_iconst_m1⟩
theorem dX12_putIn_28 : vm_at cX12_putIn 28 (.iastore) 1 29 := ⟨vm_row tbX12_putIn 19 rfl, rfl⟩
theorem dX12_putIn_29 : vm_at cX12_putIn 29 (.aload_n 0) 1 30 ∧ ((0 : Fin 4) : Nat) = 0 := ⟨⟨vm_row tbX12_putIn 20 rfl, rfl⟩, rfl⟩
theorem dX12_putIn_30 : vm_at cX12_putIn 30 (.getfield 62) 3 33 := ⟨vm_row tbX12_putIn 21 rfl, rfl⟩
theorem dX12_putIn_33 : vm_at cX12_putIn 33 (.iload_n 2) 1 34 ∧ ((2 : Fin 4) : Nat) = 2 := ⟨⟨vm_row tbX12_putIn 22 rfl, rfl⟩, rfl⟩
theorem dX12_putIn_34 : vm_at cX12_putIn 34 (.iaload) 1 35 := ⟨vm_row tbX12_putIn 23 rfl, rfl⟩
theorem dX12_putIn_35 : vm_at cX12_putIn 35 (.iconst (-1)) 1 36 ∧ Int32.ofInt (-1) = (-1 : Int32) := ⟨⟨vm_row tbX12_putIn 24 rfl, rfl⟩, z_iconst_m1⟩
theorem dX12_putIn_36 : vm_br cX12_putIn 36 (.if_icmp .eq 15) 3 39 (15) 51 := ⟨vm_row tbX12_putIn 25 rfl, rfl, rfl⟩
theorem dX12_putIn_39 : vm_at cX12_putIn 39 (.aload_n 0) 1 40 ∧ ((0 : Fin 4) : Nat) = 0 := ⟨⟨vm_row tbX12_putIn 26 rfl, rfl⟩, rfl⟩
theorem dX12_putIn_40 : vm_at cX12_putIn 40 (.getfield 53) 3 43 := ⟨vm_row tbX12_putIn 27 rfl, rfl⟩
theorem dX12_putIn_43 : vm_at cX12_putIn 43 (.aload_n 0) 1 44 ∧ ((0 : Fin 4) : Nat) = 0 := ⟨⟨vm_row tbX12_putIn 28 rfl, rfl⟩, rfl⟩
theorem dX12_putIn_44 : vm_at cX12_putIn 44 (.getfield 62) 3 47 := ⟨vm_row tbX12_putIn 29 rfl, rfl⟩
theorem dX12_putIn_47 : vm_at cX12_putIn 47 (.iload_n 2) 1 48 ∧ ((2 : Fin 4) : Nat) = 2 := ⟨⟨vm_row tbX12_putIn 30 rfl, rfl⟩, rfl⟩
theorem dX12_putIn_48 : vm_at cX12_putIn 48 (.iaload) 1 49 := ⟨vm_row tbX12_putIn 31 rfl, rfl⟩
theorem dX12_putIn_49 : vm_at cX12_putIn 49 (.iload_n 1) 1 50 ∧ ((1 : Fin 4) : Nat) = 1 := ⟨⟨vm_row tbX12_putIn 32 rfl, rfl⟩, rfl⟩
theorem dX12_putIn_50 : vm_at cX12_putIn 50 (.iastore) 1 51 := ⟨vm_row tbX12_putIn 33 rfl, rfl⟩
theorem dX12_putIn_51 : vm_at cX12_putIn 51 (.aload_n 0) 1 52 ∧ ((0 : Fin 4) : Nat) = 0 := ⟨⟨vm_row tbX12_putIn 34 rfl, rfl⟩, rfl⟩
theorem dX12_putIn_52 : vm_at cX12_putIn 52 (.getfield 62) 3 55 := ⟨vm_row tbX12_putIn 35 rfl, rfl⟩
theorem dX12_putIn_55 : vm_at cX12_putIn 55 (.iload_n 2) 1 56 ∧ ((2 : Fin 4) : Nat) = 2 := ⟨⟨vm_row tbX12_putIn 36 rfl, rfl⟩, rfl⟩
theorem dX12_putIn_56 : vm_at cX12_putIn 56 (.iload_n 1) 1 57 ∧ ((1 : Fin 4) : Nat) = 1 := ⟨⟨vm_row tbX12_putIn 37 rfl, rfl⟩, rfl⟩
theorem dX12_putIn_57 : vm_at cX12_putIn 57 (.iastore) 1 58 := ⟨vm_row tbX12_putIn 38 rfl, rfl⟩
theorem dX12_putIn_58 : vm_at cX12_putIn 58 (.return_) 1 59 := ⟨vm_row tbX12_putIn 39 rfl, rfl⟩
def tlX12_takeOut : List (Nat × Instr × Nat) := [(0, .aload_n 0, 1), (1, .getfield 53, 3), (4, .iload_n 1, 1), (5, .iaload, 1), (6, .iconst (-1), 1), (7, .if_icmp .ne 26, 3), (10, .aload_n 0, 1), (11, .getfield 62, 3), (14, .aload_n 0, 1), (15, .getfield 44, 3), (18, .iload_n 1, 1), (19, .iaload, 1), (20, .bipush 100, 2), (22, .irem, 1), (23, .aload_n 0, 1), (24, .getfield 47, 3), (27, .iload_n 1, 1), (28, .iaload, 1), (29, .iastore, 1), (30, .goto 20, 3), (33, .aload_n 0, 1), (34, .getfield 47, 3), (37, .aload_n 0, 1), (38, .getfield 53, 3), (41, .iload_n 1, 1), (42, .iaload, 1), (43, .aload_n 0, 1), (44, .getfield 47, 3), (47, .iload_n 1, 1), (48, .iaload, 1), (49, .iastore, 1), (50, .aload_n 0, 1), (51, .getfield 47, 3), (54, .iload_n 1, 1), (55, .iaload, 1), (56, .iconst (-1), 1), (57, .if_icmp .eq 20, 3), (60, .aload_n 0, 1), (61, .getfield 53, 3), (64, .aload_n 0, 1), (65, .getfield 47, 3), (68, .iload_n 1, 1), (69, .iaload, 1), (70, .aload_n 0, 1), (71, .getfield 53, 3), (74, .iload_n 1, 1), (75, .iaload, 1), (76, .iastore, 1), (77, .return_, 1)]
theorem tbX12_takeOut : vm_chk cX12_takeOut tlX12_takeOut = true := by decide +kernel
theorem dX12_takeOut_0 : vm_at cX12_takeOut 0 (.aload_n 0) 1 1 ∧ ((0 : Fin 4) : Nat) = 0 := ⟨⟨vm_row tbX12_takeOut 0 rfl, rfl⟩, rfl⟩
theorem dX12_takeOut_1 : vm_at cX12_takeOut 1 (.getfield 53) 3 4 := ⟨vm_row tbX12_takeOut 1 rfl, rfl⟩
theorem dX12_takeOut_4 : vm_at cX12_takeOut 4 (.iload_n 1) 1 5 ∧ ((1 : Fin 4) : Nat) = 1 := ⟨⟨vm_row tbX12_takeOut 2 rfl, rfl⟩, rfl⟩
theorem dX12_takeOut_5 : vm_at cX12_takeOut 5 (.iaload) 1 6 := ⟨vm_row tbX12_takeOut 3 rfl, rfl⟩
theorem dX12_takeOut_6 : vm_at cX12_takeOut 6 (.iconst (-1)) 1 7 ∧ Int32.ofInt (-1) = (-1 : Int32) := ⟨⟨vm_row tbX12_takeOut 4 rfl, rfl⟩, z_iconst_m1⟩
theorem dX12_takeOut_7 : vm_br cX12_takeOut 7 (.if_icmp .ne 26) 3 10 (26) 33 := ⟨vm_row tbX12_takeOut 5 rfl, rfl, rfl⟩
theorem dX12_takeOut_10 : vm_at cX12_takeOut 10 (.aload_n 0) 1 11 ∧ ((0 : Fin 4) : Nat) = 0 := ⟨⟨vm_row tbX12_takeOut 6 rfl, rfl⟩, rfl⟩
theorem dX12_takeOut_11 : vm_at cX12_takeOut 11 (.getfield 62) 3 14 := ⟨vm_row tbX12_takeOut 7 rfl, rfl⟩
theorem dX12_takeOut_14 : vm_at cX12_takeOut 14 (.aload_n 0) 1 15 ∧ ((0 : Fin 4) : Nat) = 0 := ⟨⟨vm_row tbX12_takeOut 8 rfl, rfl⟩, rfl⟩
theorem dX12_takeOut_15 : vm_at cX12_takeOut 15 (.getfield 44) 3 18 := ⟨vm_row tbX12_takeOut 9 rfl, rfl⟩
theorem dX12_takeOut_18 : vm_at cX12_takeOut 18 (.iload_n 1) 1 19 ∧ ((1 : Fin 4) : Nat) = 1 := ⟨⟨vm_row tbX12_takeOut 10 rfl, rfl⟩, rfl⟩
theorem dX12_takeOut_19 : vm_at cX12_takeOut 19 (.iaload) 1 20 := ⟨vm_row tbX12_takeOut 11 rfl, rfl⟩
theorem dX12_takeOut_20 : vm_at cX12_takeOut 20 (.bipush 100) 2 22 ∧ (Int8.ofInt (100)).toInt32 = (100 : Int32) := ⟨⟨vm_row tbX12_takeOut 12 rfl, rfl⟩, z_bipush_100⟩
theorem dX12_takeOut_22 : vm_at cX12_takeOut 22 (.irem) 1 23 := ⟨vm_row tbX12_takeOut 13 rfl, rfl⟩
theorem dX12_takeOut_23 : vm_at cX12_takeOut 23 (.aload_n 0) 1 24 ∧ ((0 : Fin 4) : Nat) = 0 := ⟨⟨vm_row tbX12_takeOut 14 rfl, rfl⟩, rfl⟩
theorem dX12_takeOut_24 : vm_at cX12_takeOut 24 (.getfield 47) 3 27 := ⟨vm_row tbX12_takeOut 15 rfl, rfl⟩
theorem dX12_takeOut_27 : vm_at cX12_takeOut 27 (.iload_n 1) 1 28 ∧ ((1 : Fin 4) : Nat) = 1 := ⟨⟨vm_row tbX12_takeOut 16 rfl, rfl⟩, rfl⟩
theorem dX12_takeOut_28 : vm_at cX12_takeOut 28 (.iaload) 1 29 := ⟨vm_row tbX12_takeOut 17 rfl, rfl⟩
theorem dX12_takeOut_29 : vm_at cX12_takeOut 29 (.iastore) 1 30 := ⟨vm_row tbX12_takeOut 18 rfl, rfl⟩
theorem dX12_takeOut_30 : vm_br cX12_takeOut 30 (.goto 20) 3 33 (20) 50 := ⟨vm_row tbX12_takeOut 19 rfl, rfl, rfl⟩
theorem dX12_takeOut_33 : vm_at cX12_takeOut 33 (.aload_n 0) 1 34 ∧ ((0 : Fin 4) : Nat) = 0 := ⟨⟨vm_row tbX12_takeOut 20 rfl, rfl⟩, rfl⟩
theorem dX12_takeOut_34 : vm_at cX12_takeOut 34 (.getfield 47) 3 37 := ⟨vm_row tbX12_takeOut 21 rfl, rfl⟩
theorem dX12_takeOut_37 : vm_at cX12_takeOut 37 (.aload_n 0) 1 38 ∧ ((0 : Fin 4) : Nat) = 0 := ⟨⟨vm_row tbX12_takeOut 22 rfl, rfl⟩, rfl⟩
theorem dX12_takeOut_38 : vm_at cX12_takeOut 38 (.getfield 53) 3 41 := ⟨vm_row tbX12_takeOut 23 rfl, rfl⟩
theorem dX12_takeOut_41 : vm_at cX12_takeOut 41 (.iload_n 1) 1 42 ∧ ((1 : Fin 4) : Nat) = 1 := ⟨⟨vm_row tbX12_takeOut 24 rfl, rfl⟩, rfl⟩
theorem dX12_takeOut_42 : vm_at cX12_takeOut 42 (.iaload) 1 43 := ⟨vm_row tbX12_takeOut 25 rfl, rfl⟩
theorem dX12_takeOut_43 : vm_at cX12_takeOut 43 (.aload_n 0) 1 44 ∧ ((0 : Fin 4) : Nat) = 0 := ⟨⟨vm_row tbX12_takeOut 26 rfl, rfl⟩, rfl⟩
theorem dX12_takeOut_44 : vm_at cX12_takeOut 44 (.getfield 47) 3 47 := ⟨vm_row tbX12_takeOut 27 rfl, rfl⟩
theorem dX12_takeOut_47 : vm_at cX12_takeOut 47 (.iload_n 1) 1 48 ∧ ((1 : Fin 4) : Nat) = 1 := ⟨⟨vm_row tbX12_takeOut 28 rfl, rfl⟩, rfl⟩
theorem dX12_takeOut_48 : vm_at cX12_takeOut 48 (.iaload) 1 49 := ⟨vm_row tbX12_takeOut 29 rfl, rfl⟩
theorem dX12_takeOut_49 : vm_at cX12_takeOut 49 (.iastore) 1 50 := ⟨vm_row tbX12_takeOut 30 rfl, rfl⟩
theorem dX12_takeOut_50 : vm_at cX12_takeOut 50 (.aload_n 0) 1 51 ∧ ((0 : Fin 4) : Nat) = 0 := ⟨⟨vm_row tbX12_takeOut 31 rfl, rfl⟩, rfl⟩
theorem dX12_takeOut_51 : vm_at cX12_takeOut 51 (.getfield 47) 3 54 := ⟨vm_row tbX12_takeOut 32 rfl, rfl⟩
theorem dX12_takeOut_54 : vm_at cX12_takeOut 54 (.iload_n 1) 1 55 ∧ ((1 : Fin 4) : Nat) = 1 := ⟨⟨vm_row tbX12_takeOut 33 rfl, rfl⟩, rfl⟩
theorem dX12_takeOut_55 : vm_at cX12_takeOut 55 (.iaload) 1 56 := ⟨vm_row tbX12_takeOut 34 rfl, rfl⟩
theorem dX12_takeOut_56 : vm_at cX12_takeOut 56 (.iconst (-1)) 1 57 ∧ Int32.ofInt (-1) = (-1 : Int32) := ⟨⟨vm_row tbX12_takeOut 35 rfl, rfl⟩, z_iconst_m1⟩
theorem dX12_takeOut_57 : vm_br cX12_takeOut 57 (.if_icmp .eq 20) 3 60 (20) 77 := ⟨vm_row tbX12_takeOut 36 rfl, rfl, rfl⟩
theorem dX12_takeOut_60 : vm_at cX12_takeOut 60 (.aload_n 0) 1 61 ∧ ((0 : Fin 4) : Nat) = 0 := ⟨⟨vm_row tbX12_takeOut 37 rfl, rfl⟩, rfl⟩
theorem dX12_takeOut_61 : vm_at cX12_takeOut 61 (.getfield 53) 3 64 := ⟨vm_row tbX12_takeOut 38 rfl, rfl⟩
theorem dX12_takeOut_64 : vm_at cX12_takeOut 64 (.aload_n 0) 1 65 ∧ ((0 : Fin 4) : Nat) = 0 := ⟨⟨vm_row tbX12_takeOut 39 rfl, rfl⟩, rfl⟩
theorem dX12_takeOut_65 : vm_at cX12_takeOut 65 (.getfield 47) 3 68 := ⟨vm_row tbX12_takeOut 40 rfl, rfl⟩
theorem dX12_takeOut_68 : vm_at cX12_takeOut 68 (.iload_n 1) 1 69 ∧ ((1 : Fin 4) : Nat) = 1 := ⟨⟨vm_row tbX12_takeOut 41 rfl, rfl⟩, rfl⟩
theorem dX12_takeOut_69 : vm_at cX12_takeOut 69 (.iaload) 1 70 := ⟨vm_row tbX12_takeOut 42 rfl, rfl⟩
theorem dX12_takeOut_70 : vm_at cX12_takeOut 70 (.aload_n 0) 1 71 ∧ ((0 : Fin 4) : Nat) = 0 := ⟨⟨vm_row tbX12_takeOut 43 rfl, rfl⟩, rfl⟩
theorem dX12_takeOut_71 : vm_at cX12_takeOut 71 (.getfield 53) 3 74 := ⟨vm_row tbX12_takeOut 44 rfl, rfl⟩
theorem dX12_takeOut_74 : vm_at cX12_takeOut 74 (.iload_n 1) 1 75 ∧ ((1 : Fin 4) : Nat) = 1 := ⟨⟨vm_row tbX12_takeOut 45 rfl, rfl⟩, rfl⟩
theorem dX12_takeOut_75 : vm_at cX12_takeOut 75 (.iaload) 1 76 := ⟨vm_row tbX12_takeOut 46 rfl, rfl⟩
theorem dX12_takeOut_76 : vm_at cX12_takeOut 76 (.iastore) 1 77 := ⟨vm_row tbX12_takeOut 47 rfl, rfl⟩
theorem dX12_takeOut_77 : vm_at cX12_takeOut 77 (.return_) 1 78 := ⟨vm_row tbX12_takeOut 48 rfl, rfl⟩
def tlX12_leastOf : List (Nat × Instr × Nat) := [(0, .aload_n 0, 1), (1, .invokevirtual 229, 3), (4, .istore_n 2, 1), (5, .iconst 0, 1), (6, .istore_n 3, 1), (7, .iload_n 3, 1), (8, .aload_n 0, 1), (9, .invokevirtual 233, 3), (12, .if_icmp .ge 16, 3), (15, .aload_n 0, 1), (16, .getfield 44, 3), (19, .iload_n 3, 1), (20, .iconst (-1), 1), (21, .iastore, 1), (22, .iinc 3 1, 3), (25, .goto (-18), 3), (28, .iconst 0, 1), (29, .istore_n 3, 1), (30, .iload_n 3, 1), (31, .bipush 100, 2), (33, .if_icmp .ge 16, 3), (36, .aload_n 0, 1), (37, .getfield 62, 3), (40, .iload_n 3, 1), (41, .iconst (-1), 1), (42, .iastore, 1), (43, .iinc 3 1, 3), (46, .goto (-16), 3), (49, .aload_n 0, 1), (50, .getfield 44, 3), (53, .iload_n 2, 1), (54, .iconst 0, 1), (55, .iastore, 1), (56, .aload_n 0, 1), (57, .iload_n 2, 1), (58, .invokevirtual 249, 3), (61, .iconst 0, 1), (62, .istore_n 3, 1), (63, .iconst (-1), 1), (64, .istore 4, 2), (66, .iconst 0, 1), (67, .istore 5, 2), (69, .iload_n 3, 1), (70, .bipush 100, 2), (72, .if_icmp .ge 178, 3), (75, .iload 4, 2), (77, .iconst (-1), 1), (78, .if_icmp .ne 172, 3), (81, .iinc 3 1, 3), (84, .aload_n 0, 1), (85, .getfield 62, 3), (88, .iload 5, 2), (90, .bipush 100, 2), (92, .irem, 1), (93, .iaload, 1), (94, .iconst (-1), 1), (95, .if_icmp .eq 149, 3), (98, .iload 4, 2), (100, .iconst (-1), 1), (101, .if_icmp .ne 143, 3), (104, .aload_n 0, 1), (105, .getfield 62, 3), (108, .iload 5, 2), (110, .bipush 100, 2), (112, .irem, 1), (113, .iaload, 1), (114, .istore 6, 2), (116, .aload_n 0, 1), (117, .iload 6, 2), (119, .invokevirtual 252, 3), (122, .iconst 0, 1), (123, .istore_n 3, 1), (124, .aload_n 0, 1), (125, .iload 6, 2), (127, .invokevirtual 236, 3), (130, .iload_n 1, 1), (131, .if_icmp .ne 8, 3), (134, .iload 5, 2), (136, .goto 4, 3), (139, .iconst (-1), 1), (140, .istore 4, 2), (142, .iconst 0, 1), (143, .istore 7, 2), (145, .iload 7, 2), (147, .aload_n 0, 1), (148, .getfield 182, 3), (151, .if_icmp .ge 90, 3), (154, .aload_n 0, 1), (155, .iload 6, 2), (157, .iload 7, 2), (159, .invokevirtual 239, 3), (162, .istore 8, 2), (164, .iload 5, 2), (166, .aload_n 0, 1), (167, .getfield 13, 3), (170, .iconst 4, 1), (171, .iload 7, 2), (173, .imul, 1), (174, .iconst 1, 1), (175, .iadd, 1), (176, .iaload, 1), (177, .iadd, 1), (178, .istore 9, 2), (180, .aload_n 0, 1), (181, .getfield 44, 3), (184, .iload 8, 2), (186, .iaload, 1), (187, .iconst (-1), 1), (188, .if_icmp .eq 15, 3), (191, .iload 9, 2), (193, .aload_n 0, 1), (194, .getfield 44, 3), (197, .iload 8, 2), (199, .iaload, 1), (200, .if_icmp .ge 35, 3), (203, .aload_n 0, 1), (204, .getfield 44, 3), (207, .iload 8, 2), (209, .iaload, 1), (210, .iconst (-1), 1), (211, .if_icmp .eq 9, 3), (214, .aload_n 0, 1), (215, .iload 8, 2), (217, .invokevirtual 252, 3), (220, .aload_n 0, 1), (221, .getfield 44, 3), (224, .iload 8, 2), (226, .iload 9, 2), (228, .iastore, 1), (229, .aload_n 0, 1), (230, .iload 8, 2), (232, .invokevirtual 249, 3), (235, .iinc 7 1, 3), (238, .goto (-93), 3), (241, .goto (-157), 3), (244, .iinc 5 1, 3), (247, .goto (-178), 3), (250, .aload_n 0, 1), (251, .iload_n 2, 1), (252, .invokevirtual 223, 3), (255, .iload 4, 2), (257, .ireturn, 1)]
theorem tbX12_leastOf : vm_chk cX12_leastOf tlX12_leastOf = true := by decide +kernel
theorem dX12_leastOf_0 : vm_at cX12_leastOf 0 (.aload_n 0) 1 1 ∧ ((0 : Fin 4) : Nat) = 0 := ⟨⟨vm_row tbX12_leastOf 0 rfl, rfl⟩, rfl⟩
theorem dX12_leastOf_1 : vm_at cX12_leastOf 1 (.invokevirtual 229) 3 4 := ⟨vm_row tbX12_leastOf 1 rfl, rfl⟩
theorem dX12_leastOf_4 : vm_at cX12_leastOf 4 (.istore_n 2) 1 5 ∧ ((2 : Fin 4) : Nat) = 2 := ⟨⟨vm_row tbX12_leastOf 2 rfl, rfl⟩, rfl⟩
theorem dX12_leastOf_5 : vm_at cX12_leastOf 5 (.iconst 0) 1 6 ∧ Int32.ofInt (0) = (0 : Int32) := ⟨⟨vm_row tbX12_leastOf 3 rfl, rfl⟩, z_iconst_0⟩
theorem dX12_leastOf_6 : vm_at cX12_leastOf 6 (.istore_n 3) 1 7 ∧ ((3 : Fin 4) : Nat) = 3 := ⟨⟨vm_row tbX12_leastOf 4 rfl, rfl⟩, rfl⟩
theorem dX12_leastOf_7 : vm_at cX12_leastOf 7 (.iload_n 3) 1 8 ∧ ((3 : Fin 4) : Nat) = 3 := ⟨⟨vm_row tbX12_leastOf 5 rfl, rfl⟩, rfl⟩
theorem dX12_leastOf_8 : vm_at cX12_leastOf 8 (.aload_n 0) 1 9 ∧ ((0 : Fin 4) : Nat) = 0 := ⟨⟨vm_row tbX12_leastOf 6 rfl, rfl⟩, rfl⟩
theorem dX12_leastOf_9 : vm_at cX12_leastOf 9 (.invokevirtual 233) 3 12 := ⟨vm_row tbX12_leastOf 7 rfl, rfl⟩
theorem dX12_leastOf_12 : vm_br cX12_leastOf 12 (.if_icmp .ge 16) 3 15 (16) 28 := ⟨vm_row tbX12_leastOf 8 rfl, rfl, rfl⟩
theorem dX12_leastOf_15 : vm_at cX12_leastOf 15 (.aload_n 0) 1 16 ∧ ((0 : Fin 4) : Nat) = 0 := ⟨⟨vm_row tbX12_leastOf 9 rfl, rfl⟩, rfl⟩
theorem dX12_leastOf_16 : vm_at cX12_leastOf 16 (.getfield 44) 3 19 := ⟨vm_row tbX12_leastOf 10 rfl, rfl⟩
theorem dX12_leastOf_19 : vm_at cX12_leastOf 19 (.iload_n 3) 1 20 ∧ ((3 : Fin 4) : Nat) = 3 := ⟨⟨vm_row tbX12_leastOf 11 rfl, rfl⟩, rfl⟩
theorem dX12_leastOf_20 : vm_at cX12_leastOf 20 (.iconst (-1)) 1 21 ∧ Int32.ofInt (-1) = (-1 : Int32) := ⟨⟨vm_row tbX12_leastOf 12 rfl, rfl⟩, z_iconst_m1⟩
theorem dX12_leastOf_21 : vm_at cX12_leastOf 21 (.iastore) 1 22 := ⟨vm_row tbX12_leastOf 13 rfl, rfl⟩
theorem dX12_leastOf_22 : vm_at cX12_leastOf 22 (.iinc 3 1) 3 25 ∧ Int32.ofInt (1) = (1 : Int32) := ⟨⟨vm_row tbX12_leastOf 14 rfl, rfl⟩, z_iconst_1⟩
theorem dX12_leastOf_25 : vm_br cX12_leastOf 25 (.goto (-18)) 3 28 (-18) 7 := ⟨vm_row tbX12_leastOf 15 rfl, rfl, rfl⟩
theorem dX12_leastOf_28 : vm_at cX12_leastOf 28 (.iconst 0) 1 29 ∧ Int32.ofInt (0) = (0 : Int32) := ⟨⟨vm_row tbX12_leastOf 16 rfl, rfl⟩, z_iconst_0⟩
theorem dX12_leastOf_29 : vm_at cX12_leastOf 29 (.istore_n 3) 1 30 ∧ ((3 : Fin 4) : Nat) = 3 := ⟨⟨vm_row tbX12_leastOf 17 rfl, rfl⟩, rfl⟩
theorem dX12_leastOf_30 : vm_at cX12_leastOf 30 (.iload_n 3) 1 31 ∧ ((3 : Fin 4) : Nat) = 3 := ⟨⟨vm_row tbX12_leastOf 18 rfl, rfl⟩, rfl⟩
theorem dX12_leastOf_31 : vm_at cX12_leastOf 31 (.bipush 100) 2 33 ∧ (Int8.ofInt (100)).toInt32 = (100 : Int32) := ⟨⟨vm_row tbX12_leastOf 19 rfl, rfl⟩, z_bipush_100⟩
theorem dX12_leastOf_33 : vm_br cX12_leastOf 33 (.if_icmp .ge 16) 3 36 (16) 49 := ⟨vm_row tbX12_leastOf 20 rfl, rfl, rfl⟩
theorem dX12_leastOf_36 : vm_at cX12_leastOf 36 (.aload_n 0) 1 37 ∧ ((0 : Fin 4) : Nat) = 0 := ⟨⟨vm_row tbX12_leastOf 21 rfl, rfl⟩, rfl⟩
theorem dX12_leastOf_37 : vm_at cX12_leastOf 37 (.getfield 62) 3 40 := ⟨vm_row tbX12_leastOf 22 rfl, rfl⟩
theorem dX12_leastOf_40 : vm_at cX12_leastOf 40 (.iload_n 3) 1 41 ∧ ((3 : Fin 4) : Nat) = 3 := ⟨⟨vm_row tbX12_leastOf 23 rfl, rfl⟩, rfl⟩
theorem dX12_leastOf_41 : vm_at cX12_leastOf 41 (.iconst (-1)) 1 42 ∧ Int32.ofInt (-1) = (-1 : Int32) := ⟨⟨vm_row tbX12_leastOf 24 rfl, rfl⟩, z_iconst_m1⟩
theorem dX12_leastOf_42 : vm_at cX12_leastOf 42 (.iastore) 1 43 := ⟨vm_row tbX12_leastOf 25 rfl, rfl⟩
theorem dX12_leastOf_43 : vm_at cX12_leastOf 43 (.iinc 3 1) 3 46 ∧ Int32.ofInt (1) = (1 : Int32) := ⟨⟨vm_row tbX12_leastOf 26 rfl, rfl⟩, z_iconst_1⟩
theorem dX12_leastOf_46 : vm_br cX12_leastOf 46 (.goto (-16)) 3 49 (-16) 30 := ⟨vm_row tbX12_leastOf 27 rfl, rfl, rfl⟩
theorem dX12_leastOf_49 : vm_at cX12_leastOf 49 (.aload_n 0) 1 50 ∧ ((0 : Fin 4) : Nat) = 0 := ⟨⟨vm_row tbX12_leastOf 28 rfl, rfl⟩, rfl⟩
theorem dX12_leastOf_50 : vm_at cX12_leastOf 50 (.getfield 44) 3 53 := ⟨vm_row tbX12_leastOf 29 rfl, rfl⟩
theorem dX12_leastOf_53 : vm_at cX12_leastOf 53 (.iload_n 2) 1 54 ∧ ((2 : Fin 4) : Nat) = 2 := ⟨⟨vm_row tbX12_leastOf 30 rfl, rfl⟩, rfl⟩
theorem dX12_leastOf_54 : vm_at cX12_leastOf 54 (.iconst 0) 1 55 ∧ Int32.ofInt (0) = (0 : Int32) := ⟨⟨vm_row tbX12_leastOf 31 rfl, rfl⟩, z_iconst_0⟩
theorem dX12_leastOf_55 : vm_at cX12_leastOf 55 (.iastore) 1 56 := ⟨vm_row tbX12_leastOf 32 rfl, rfl⟩
theorem dX12_leastOf_56 : vm_at cX12_leastOf 56 (.aload_n 0) 1 57 ∧ ((0 : Fin 4) : Nat) = 0 := ⟨⟨vm_row tbX12_leastOf 33 rfl, rfl⟩, rfl⟩
theorem dX12_leastOf_57 : vm_at cX12_leastOf 57 (.iload_n 2) 1 58 ∧ ((2 : Fin 4) : Nat) = 2 := ⟨⟨vm_row tbX12_leastOf 34 rfl, rfl⟩, rfl⟩
theorem dX12_leastOf_58 : vm_at cX12_leastOf 58 (.invokevirtual 249) 3 61 := ⟨vm_row tbX12_leastOf 35 rfl, rfl⟩
theorem dX12_leastOf_61 : vm_at cX12_leastOf 61 (.iconst 0) 1 62 ∧ Int32.ofInt (0) = (0 : Int32) := ⟨⟨vm_row tbX12_leastOf 36 rfl, rfl⟩, z_iconst_0⟩
theorem dX12_leastOf_62 : vm_at cX12_leastOf 62 (.istore_n 3) 1 63 ∧ ((3 : Fin 4) : Nat) = 3 := ⟨⟨vm_row tbX12_leastOf 37 rfl, rfl⟩, rfl⟩
theorem dX12_leastOf_63 : vm_at cX12_leastOf 63 (.iconst (-1)) 1 64 ∧ Int32.ofInt (-1) = (-1 : Int32) := ⟨⟨vm_row tbX12_leastOf 38 rfl, rfl⟩, z_iconst_m1⟩
theorem dX12_leastOf_64 : vm_at cX12_leastOf 64 (.istore 4) 2 66 := ⟨vm_row tbX12_leastOf 39 rfl, rfl⟩
theorem dX12_leastOf_66 : vm_at cX12_leastOf 66 (.iconst 0) 1 67 ∧ Int32.ofInt (0) = (0 : Int32) := ⟨⟨vm_row tbX12_leastOf 40 rfl, rfl⟩, z_iconst_0⟩
theorem dX12_leastOf_67 : vm_at cX12_leastOf 67 (.istore 5) 2 69 := ⟨vm_row tbX12_leastOf 41 rfl, rfl⟩
theorem dX12_leastOf_69 : vm_at cX12_leastOf 69 (.iload_n 3) 1 70 ∧ ((3 : Fin 4) : Nat) = 3 := ⟨⟨vm_row tbX12_leastOf 42 rfl, rfl⟩, rfl⟩
theorem dX12_leastOf_70 : vm_at cX12_leastOf 70 (.bipush 100) 2 72 ∧ (Int8.ofInt (100)).toInt32 = (100 : Int32) := ⟨⟨vm_row tbX12_leastOf 43 rfl, rfl⟩, z_bipush_100⟩
theorem dX12_leastOf_72 : vm_br cX12_leastOf 72 (.if_icmp .ge 178) 3 75 (178) 250 := ⟨vm_row tbX12_leastOf 44 rfl, rfl, rfl⟩
theorem dX12_leastOf_75 : vm_at cX12_leastOf 75 (.iload 4) 2 77 := ⟨vm_row tbX12_leastOf 45 rfl, rfl⟩
theorem dX12_leastOf_77 : vm_at cX12_leastOf 77 (.iconst (-1)) 1 78 ∧ Int32.ofInt (-1) = (-1 : Int32) := ⟨⟨vm_row tbX12_leastOf 46 rfl, rfl⟩, z_iconst_m1⟩
theorem dX12_leastOf_78 : vm_br cX12_leastOf 78 (.if_icmp .ne 172) 3 81 (172) 250 := ⟨vm_row tbX12_leastOf 47 rfl, rfl, rfl⟩
theorem dX12_leastOf_81 : vm_at cX12_leastOf 81 (.iinc 3 1) 3 84 ∧ Int32.ofInt (1) = (1 : Int32) := ⟨⟨vm_row tbX12_leastOf 48 rfl, rfl⟩, z_iconst_1⟩
theorem dX12_leastOf_84 : vm_at cX12_leastOf 84 (.aload_n 0) 1 85 ∧ ((0 : Fin 4) : Nat) = 0 := ⟨⟨vm_row tbX12_leastOf 49 rfl, rfl⟩, rfl⟩
theorem dX12_leastOf_85 : vm_at cX12_leastOf 85 (.getfield 62) 3 88 := ⟨vm_row tbX12_leastOf 50 rfl, rfl⟩
theorem dX12_leastOf_88 : vm_at cX12_leastOf 88 (.iload 5) 2 90 := ⟨vm_row tbX12_leastOf 51 rfl, rfl⟩
theorem dX12_leastOf_90 : vm_at cX12_leastOf 90 (.bipush 100) 2 92 ∧ (Int8.ofInt (100)).toInt32 = (100 : Int32) := ⟨⟨vm_row tbX12_leastOf 52 rfl, rfl⟩, z_bipush_100⟩
theorem dX12_leastOf_92 : vm_at cX12_leastOf 92 (.irem) 1 93 := ⟨vm_row tbX12_leastOf 53 rfl, rfl⟩
theorem dX12_leastOf_93 : vm_at cX12_leastOf 93 (.iaload) 1 94 := ⟨vm_row tbX12_leastOf 54 rfl, rfl⟩
theorem dX12_leastOf_94 : vm_at cX12_leastOf 94 (.iconst (-1)) 1 95 ∧ Int32.ofInt (-1) = (-1 : Int32) := ⟨⟨vm_row tbX12_leastOf 55 rfl, rfl⟩, z_iconst_m1⟩
theorem dX12_leastOf_95 : vm_br cX12_leastOf 95 (.if_icmp .eq 149) 3 98 (149) 244 := ⟨vm_row tbX12_leastOf 56 rfl, rfl, rfl⟩
theorem dX12_leastOf_98 : vm_at cX12_leastOf 98 (.iload 4) 2 100 := ⟨vm_row tbX12_leastOf 57 rfl, rfl⟩
theorem dX12_leastOf_100 : vm_at cX12_leastOf 100 (.iconst (-1)) 1 101 ∧ Int32.ofInt (-1) = (-1 : Int32) := ⟨⟨vm_row tbX12_leastOf 58 rfl, rfl⟩, z_iconst_m1⟩
theorem dX12_leastOf_101 : vm_br cX12_leastOf 101 (.if_icmp .ne 143) 3 104 (143) 244 := ⟨vm_row tbX12_leastOf 59 rfl, rfl, rfl⟩
theorem dX12_leastOf_104 : vm_at cX12_leastOf 104 (.aload_n 0) 1 105 ∧ ((0 : Fin 4) : Nat) = 0 := ⟨⟨vm_row tbX12_leastOf 60 rfl, rfl⟩, rfl⟩
theorem dX12_leastOf_105 : vm_at cX12_leastOf 105 (.getfield 62) 3 108 := ⟨vm_row tbX12_leastOf 61 rfl, rfl⟩
theorem dX12_leastOf_108 : vm_at cX12_leastOf 108 (.iload 5) 2 110 := ⟨vm_row tbX12_leastOf 62 rfl, rfl⟩
theorem dX12_leastOf_110 : vm_at cX12_leastOf 110 (.bipush 100) 2 112 ∧ (Int8.ofInt (100)).toInt32 = (100 : Int32) := ⟨⟨vm_row tbX12_leastOf 63 rfl, rfl⟩, z_bipush_100⟩
theorem dX12_leastOf_112 : vm_at cX12_leastOf 112 (.irem) 1 113 := ⟨vm_row tbX12_leastOf 64 rfl, rfl⟩
theorem dX12_leastOf_113 : vm_at cX12_leastOf 113 (.iaload) 1 114 := ⟨vm_row tbX12_leastOf 65 rfl, rfl⟩
theorem dX12_leastOf_114 : vm_at cX12_leastOf 114 (.istore 6) 2 116 := ⟨vm_row tbX12_leastOf 66 rfl, rfl⟩
theorem dX12_leastOf_116 : vm_at cX12_leastOf 116 (.aload_n 0) 1 117 ∧ ((0 : Fin 4) : Nat) = 0 := ⟨⟨vm_row tbX12_leastOf 67 rfl, rfl⟩, rfl⟩
theorem dX12_leastOf_117 : vm_at cX12_leastOf 117 (.iload 6) 2 119 := ⟨vm_row tbX12_leastOf 68 rfl, rfl⟩
theorem dX12_leastOf_119 : vm_at cX12_leastOf 119 (.invokevirtual 252) 3 122 := ⟨vm_row tbX12_leastOf 69 rfl, rfl⟩
theorem dX12_leastOf_122 : vm_at cX12_leastOf 122 (.iconst 0) 1 123 ∧ Int32.ofInt (0) = (0 : Int32) := ⟨⟨vm_row tbX12_leastOf 70 rfl, rfl⟩, z_iconst_0⟩
theorem dX12_leastOf_123 : vm_at cX12_leastOf 123 (.istore_n 3) 1 124 ∧ ((3 : Fin 4) : Nat) = 3 := ⟨⟨vm_row tbX12_leastOf 71 rfl, rfl⟩, rfl⟩
theorem dX12_leastOf_124 : vm_at cX12_leastOf 124 (.aload_n 0) 1 125 ∧ ((0 : Fin 4) : Nat) = 0 := ⟨⟨vm_row tbX12_leastOf 72 rfl, rfl⟩, rfl⟩
theorem dX12_leastOf_125 : vm_at cX12_leastOf 125 (.iload 6) 2 127 := ⟨vm_row tbX12_leastOf 73 rfl, rfl⟩
theorem dX12_leastOf_127 : vm_at cX12_leastOf 127 (.invokevirtual 236) 3 130 := ⟨vm_row tbX12_leastOf 74 rfl, rfl⟩
theorem dX12_leastOf_130 : vm_at cX12_leastOf 130 (.iload_n 1) 1 131 ∧ ((1 : Fin 4) : Nat) = 1 := ⟨⟨vm_row tbX12_leastOf 75 rfl, rfl⟩, rfl⟩
theorem dX12_leastOf_131 : vm_br cX12_leastOf 131 (.if_icmp .ne 8) 3 134 (8) 139 := ⟨vm_row tbX12_leastOf 76 rfl, rfl, rfl⟩
theorem dX12_leastOf_134 : vm_at cX12_leastOf 134 (.iload 5) 2 136 := ⟨vm_row tbX12_leastOf 77 rfl, rfl⟩
theorem dX12_leastOf_136 : vm_br cX12_leastOf 136 (.goto 4) 3 139 (4) 140 := ⟨vm_row tbX12_leastOf 78 rfl, rfl, rfl⟩
theorem dX12_leastOf_139 : vm_at cX12_leastOf 139 (.iconst (-1)) 1 140 ∧ Int32.ofInt (-1) = (-1 : Int32) := ⟨⟨vm_row tbX12_leastOf 79 rfl, rfl⟩, z_iconst_m1⟩
theorem dX12_leastOf_140 : vm_at cX12_leastOf 140 (.istore 4) 2 142 := ⟨vm_row tbX12_leastOf 80 rfl, rfl⟩
theorem dX12_leastOf_142 : vm_at cX12_leastOf 142 (.iconst 0) 1 143 ∧ Int32.ofInt (0) = (0 : Int32) := ⟨⟨vm_row tbX12_leastOf 81 rfl, rfl⟩, z_iconst_0⟩
theorem dX12_leastOf_143 : vm_at cX12_leastOf 143 (.istore 7) 2 145 := ⟨vm_row tbX12_leastOf 82 rfl, rfl⟩
theorem dX12_leastOf_145 : vm_at cX12_leastOf 145 (.iload 7) 2 147 := ⟨vm_row tbX12_leastOf 83 rfl, rfl⟩
theorem dX12_leastOf_147 : vm_at cX12_leastOf 147 (.aload_n 0) 1 148 ∧ ((0 : Fin 4) : Nat) = 0 := ⟨⟨vm_row tbX12_leastOf 84 rfl, rfl⟩, rfl⟩
theorem dX12_leastOf_148 : vm_at cX12_leastOf 148 (.getfield 182) 3 151 := ⟨vm_row tbX12_leastOf 85 rfl, rfl⟩
theorem dX12_leastOf_151 : vm_br cX12_leastOf 151 (.if_icmp .ge 90) 3 154 (90) 241 := ⟨vm_row tbX12_leastOf 86 rfl, rfl, rfl⟩
theorem dX12_leastOf_154 : vm_at cX12_leastOf 154 (.aload_n 0) 1 155 ∧ ((0 : Fin 4) : Nat) = 0 := ⟨⟨vm_row tbX12_leastOf 87 rfl, rfl⟩, rfl⟩
theorem dX12_leastOf_155 : vm_at cX12_leastOf 155 (.iload 6) 2 157 := ⟨vm_row tbX12_leastOf 88 rfl, rfl⟩
theorem dX12_leastOf_157 : vm_at cX12_leastOf 157 (.iload 7) 2 159 := ⟨vm_row tbX12_leastOf 89 rfl, rfl⟩
theorem dX12_leastOf_159 : vm_at cX12_leastOf 159 (.invokevirtual 239) 3 162 := ⟨vm_row tbX12_leastOf 90 rfl, rfl⟩
theorem dX12_leastOf_162 : vm_at cX12_leastOf 162 (.istore 8) 2 164 := ⟨vm_row tbX12_leastOf 91 rfl, rfl⟩
theorem dX12_leastOf_164 : vm_at cX12_leastOf 164 (.iload 5) 2 166 := ⟨vm_row tbX12_leastOf 92 rfl, rfl⟩
theorem dX12_leastOf_166 : vm_at cX12_leastOf 166 (.aload_n 0) 1 167 ∧ ((0 : Fin 4) : Nat) = 0 := ⟨⟨vm_row tbX12_leastOf 93 rfl, rfl⟩, rfl⟩
theorem dX12_leastOf_167 : vm_at cX12_leastOf 167 (.getfield 13) 3 170 := ⟨vm_row tbX12_leastOf 94 rfl, rfl⟩
theorem dX12_leastOf_170 : vm_at cX12_leastOf 170 (.iconst 4) 1 171 ∧ Int32.ofInt (4) = (4 : Int32) := ⟨⟨vm_row tbX12_leastOf 95 rfl, rfl⟩, z_iconst_4⟩
theorem dX12_leastOf_171 : vm_at cX12_leastOf 171 (.iload 7) 2 173 := ⟨vm_row tbX12_leastOf 96 rfl, rfl⟩
theorem dX12_leastOf_173 : vm_at cX12_leastOf 173 (.imul) 1 174 := ⟨vm_row tbX12_leastOf 97 rfl, rfl⟩
theorem dX12_leastOf_174 : vm_at cX12_leastOf 174 (.iconst 1) 1 175 ∧ Int32.ofInt (1) = (1 : Int32) := ⟨⟨vm_row tbX12_leastOf 98 rfl, rfl⟩, z_iconst_1⟩
theorem dX12_leastOf_175 : vm_at cX12_leastOf 175 (.iadd) 1 176 := ⟨vm_row tbX12_leastOf 99 rfl, rfl⟩
theorem dX12_leastOf_176 : vm_at cX12_leastOf 176 (.iaload) 1 177 := ⟨vm_row tbX12_leastOf 100 rfl, rfl⟩
theorem dX12_leastOf_177 : vm_at cX12_leastOf 177 (.iadd) 1 178 := ⟨vm_row tbX12_leastOf 101 rfl, rfl⟩
theorem dX12_leastOf_178 : vm_at cX12_leastOf 178 (.istore 9) 2 180 := ⟨vm_row tbX12_leastOf 102 rfl, rfl⟩
theorem dX12_leastOf_180 : vm_at cX12_leastOf 180 (.aload_n 0) 1 181 ∧ ((0 : Fin 4) : Nat) = 0 := ⟨⟨vm_row tbX12_leastOf 103 rfl, rfl⟩, rfl⟩
theorem dX12_leastOf_181 : vm_at cX12_leastOf 181 (.getfield 44) 3 184 := ⟨vm_row tbX12_leastOf 104 rfl, rfl⟩
theorem dX12_leastOf_184 : vm_at cX12_leastOf 184 (.iload 8) 2 186 := ⟨vm_row tbX12_leastOf 105 rfl, rfl⟩
theorem dX12_leastOf_186 : vm_at cX12_leastOf 186 (.iaload) 1 187 := ⟨vm_row tbX12_leastOf 106 rfl, rfl⟩
theorem dX12_leastOf_187 : vm_at cX12_leastOf 187 (.iconst (-1)) 1 188 ∧ Int32.ofInt (-1) = (-1 : Int32) := ⟨⟨vm_row tbX12_leastOf 107 rfl, rfl⟩, z_iconst_m1⟩
theorem dX12_leastOf_188 : vm_br cX12_leastOf 188 (.if_icmp .eq 15) 3 191 (15) 203 := ⟨vm_row tbX12_leastOf 108 rfl, rfl, rfl⟩
theorem dX12_leastOf_191 : vm_at cX12_leastOf 191 (.iload 9) 2 193 := ⟨vm_row tbX12_leastOf 109 rfl, rfl⟩
theorem dX12_leastOf_193 : vm_at cX12_leastOf 193 (.aload_n 0) 1 194 ∧ ((0 : Fin 4) : Nat) = 0 := ⟨⟨vm_row tbX12_leastOf 110 rfl, rfl⟩, rfl⟩
theorem dX12_leastOf_194 : vm_at cX12_leastOf 194 (.getfield 44) 3 197 := ⟨vm_row tbX12_leastOf 111 rfl, rfl⟩
theorem dX12_leastOf_197 : vm_at cX12_leastOf 197 (.iload 8) 2 199 := ⟨vm_row tbX12_leastOf 112 rfl, rfl⟩
theorem dX12_leastOf_199 : vm_at cX12_leastOf 199 (.iaload) 1 200 := ⟨vm_row tbX12_leastOf 113 rfl, rfl⟩
theorem dX12_leastOf_200 : vm_br cX12_leastOf 200 (.if_icmp .ge 35) 3 203 (35) 235 := ⟨vm_row tbX12_leastOf 114 rfl, rfl, rfl⟩
theorem dX12_leastOf_203 : vm_at cX12_leastOf 203 (.aload_n 0) 1 204 ∧ ((0 : Fin 4) : Nat) = 0 := ⟨⟨vm_row tbX12_leastOf 115 rfl, rfl⟩, rfl⟩
theorem dX12_leastOf_204 : vm_at cX12_leastOf 204 (.getfield 44) 3 207 := ⟨vm_row tbX12_leastOf 116 rfl, rfl⟩
theorem dX12_leastOf_207 : vm_at cX12_leastOf 207 (.iload 8) 2 209 := ⟨vm_row tbX12_leastOf 117 rfl, rfl⟩
theorem dX12_leastOf_209 : vm_at cX12_leastOf 209 (.iaload) 1 210 := ⟨vm_row tbX12_leastOf 118 rfl, rfl⟩
theorem dX12_leastOf_210 : vm_at cX12_leastOf 210 (.iconst (-1)) 1 211 ∧ Int32.ofInt (-1) = (-1 : Int32) := ⟨⟨vm_row tbX12_leastOf 119 rfl, rfl⟩, z_iconst_m1⟩
theorem dX12_leastOf_211 : vm_br cX12_leastOf 211 (.if_icmp .eq 9) 3 214 (9) 220 := ⟨vm_row tbX12_leastOf 120 rfl, rfl, rfl⟩
theorem dX12_leastOf_214 : vm_at cX12_leastOf 214 (.aload_n 0) 1 215 ∧ ((0 : Fin 4) : Nat) = 0 := ⟨⟨vm_row tbX12_leastOf 121 rfl, rfl⟩, rfl⟩
theorem dX12_leastOf_215 : vm_at cX12_leastOf 215 (.iload 8) 2 217 := ⟨vm_row tbX12_leastOf 122 rfl, rfl⟩
theorem dX12_leastOf_217 : vm_at cX12_leastOf 217 (.invokevirtual 252) 3 220 := ⟨vm_row tbX12_leastOf 123 rfl, rfl⟩
theorem dX12_leastOf_220 : vm_at cX12_leastOf 220 (.aload_n 0) 1 221 ∧ ((0 : Fin 4) : Nat) = 0 := ⟨⟨vm_row tbX12_leastOf 124 rfl, rfl⟩, rfl⟩
theorem dX12_leastOf_221 : vm_at cX12_leastOf 221 (.getfield 44) 3 224 := ⟨vm_row tbX12_leastOf 125 rfl, rfl⟩
theorem dX12_leastOf_224 : vm_at cX12_leastOf 224 (.iload 8) 2 226 := ⟨vm_row tbX12_leastOf 126 rfl, rfl⟩
theorem dX12_leastOf_226 : vm_at cX12_leastOf 226 (.iload 9) 2 228 := ⟨vm_row tbX12_leastOf 127 rfl, rfl⟩
theorem dX12_leastOf_228 : vm_at cX12_leastOf 228 (.iastore) 1 229 := ⟨vm_row tbX12_leastOf 128 rfl, rfl⟩
theorem dX12_leastOf_229 : vm_at cX12_leastOf 229 (.aload_n 0) 1 230 ∧ ((0 : Fin 4) : Nat) = 0 := ⟨⟨vm_row tbX12_leastOf 129 rfl, rfl⟩, rfl⟩
theorem dX12_leastOf_230 : vm_at cX12_leastOf 230 (.iload 8) 2 232 := ⟨vm_row tbX12_leastOf 130 rfl, rfl⟩
theorem dX12_leastOf_232 : vm_at cX12_leastOf 232 (.invokevirtual 249) 3 235 := ⟨vm_row tbX12_leastOf 131 rfl, rfl⟩
theorem dX12_leastOf_235 : vm_at cX12_leastOf 235 (.iinc 7 1) 3 238 ∧ Int32.ofInt (1) = (1 : Int32) := ⟨⟨vm_row tbX12_leastOf 132 rfl, rfl⟩, z_iconst_1⟩
theorem dX12_leastOf_238 : vm_br cX12_leastOf 238 (.goto (-93)) 3 241 (-93) 145 := ⟨vm_row tbX12_leastOf 133 rfl, rfl, rfl⟩
theorem dX12_leastOf_241 : vm_br cX12_leastOf 241 (.goto (-157)) 3 244 (-157) 84 := ⟨vm_row tbX12_leastOf 134 rfl, rfl, rfl⟩
theorem dX12_leastOf_244 : vm_at cX12_leastOf 244 (.iinc 5 1) 3 247 ∧ Int32.ofInt (1) = (1 : Int32) := ⟨⟨vm_row tbX12_leastOf 135 rfl, rfl⟩, z_iconst_1⟩
theorem dX12_leastOf_247 : vm_br cX12_leastOf 247 (.goto (-178)) 3 250 (-178) 69 := ⟨vm_row tbX12_leastOf 136 rfl, rfl, rfl⟩
theorem dX12_leastOf_250 : vm_at cX12_leastOf 250 (.aload_n 0) 1 251 ∧ ((0 : Fin 4) : Nat) = 0 := ⟨⟨vm_row tbX12_leastOf 137 rfl, rfl⟩, rfl⟩
theorem dX12_leastOf_251 : vm_at cX12_leastOf 251 (.iload_n 2) 1 252 ∧ ((2 : Fin 4) : Nat) = 2 := ⟨⟨vm_row tbX12_leastOf 138 rfl, rfl⟩, rfl⟩
theorem dX12_leastOf_252 : vm_at cX12_leastOf 252 (.invokevirtual 223) 3 255 := ⟨vm_row tbX12_leastOf 139 rfl, rfl⟩
theorem dX12_leastOf_255 : vm_at cX12_leastOf 255 (.iload 4) 2 257 := ⟨vm_row tbX12_leastOf 140 rfl, rfl⟩
theorem dX12_leastOf_257 : vm_at cX12_leastOf 257 (.ireturn) 1 258 := ⟨vm_row tbX12_leastOf 141 rfl, rfl⟩
def tlX12_least : List (Nat × Instr × Nat) := [(0, .aload_n 0, 1), (1, .iload_n 1, 1), (2, .invokevirtual 243, 3), (5, .ifCond .eq 11, 3), (8, .aload_n 0, 1), (9, .iload_n 1, 1), (10, .invokevirtual 255, 3), (13, .goto 5, 3), (16, .ldc 72, 2), (18, .ireturn, 1)]
theorem tbX12_least : vm_chk cX12_least tlX12_least = true := by decide +kernel
theorem dX12_least_0 : vm_at cX12_least 0 (.aload_n 0) 1 1 ∧ ((0 : Fin 4) : Nat) = 0 := ⟨⟨vm_row tbX12_least 0 rfl, rfl⟩, rfl⟩
theorem dX12_least_1 : vm_at cX12_least 1 (.iload_n 1) 1 2 ∧ ((1 : Fin 4) : Nat) = 1 := ⟨⟨vm_row tbX12_least 1 rfl, rfl⟩, rfl⟩
theorem dX12_least_2 : vm_at cX12_least 2 (.invokevirtual 243) 3 5 := ⟨vm_row tbX12_least 2 rfl, rfl⟩
theorem dX12_least_5 : vm_br cX12_least 5 (.ifCond .eq 11) 3 8 (11) 16 := ⟨vm_row tbX12_least 3 rfl, rfl, rfl⟩
theorem dX12_least_8 : vm_at cX12_least 8 (.aload_n 0) 1 9 ∧ ((0 : Fin 4) : Nat) = 0 := ⟨⟨vm_row tbX12_least 4 rfl, rfl⟩, rfl⟩
theorem dX12_least_9 : vm_at cX12_least 9 (.iload_n 1) 1 10 ∧ ((1 : Fin 4) : Nat) = 1 := ⟨⟨vm_row tbX12_least 5 rfl, rfl⟩, rfl⟩
theorem dX12_least_10 : vm_at cX12_least 10 (.invokevirtual 255) 3 13 := ⟨vm_row tbX12_least 6 rfl, rfl⟩
theorem dX12_least_13 : vm_br cX12_least 13 (.goto 5) 3 16 (5) 18 := ⟨vm_row tbX12_least 7 rfl, rfl, rfl⟩
theorem dX12_least_16 : vm_at cX12_least 16 (.ldc 72) 2 18 := ⟨vm_row tbX12_least 8 rfl, rfl⟩
theorem dX12_least_18 : vm_at cX12_least 18 (.ireturn) 1 19 := ⟨vm_row tbX12_least 9 rfl, rfl⟩
def tlX12_never : List (Nat × Instr × Nat) := [(0, .aload_n 0, 1), (1, .aload_n 0, 1), (2, .getfield 182, 3), (5, .invokevirtual 246, 3), (8, .iconst 0, 1), (9, .istore_n 2, 1), (10, .iconst 0, 1), (11, .istore_n 3, 1), (12, .iload_n 3, 1), (13, .aload_n 0, 1), (14, .getfield 65, 3), (17, .if_icmp .ge 29, 3), (20, .aload_n 0, 1), (21, .getfield 56, 3), (24, .iload_n 3, 1), (25, .iaload, 1), (26, .iconst (-1), 1), (27, .if_icmp .ne 13, 3), (30, .iload_n 2, 1), (31, .iload_n 1, 1), (32, .if_icmp .ne 5, 3), (35, .iload_n 3, 1), (36, .ireturn, 1), (37, .iinc 2 1, 3), (40, .iinc 3 1, 3), (43, .goto (-31), 3), (46, .iload_n 1, 1), (47, .iconst (-1), 1), (48, .if_icmp .ne 7, 3), (51, .iload_n 2, 1), (52, .goto 4, 3), (55, .iconst (-1), 1), (56, .ireturn, 1)]
theorem tbX12_never : vm_chk cX12_never tlX12_never = true := by decide +kernel
theorem dX12_never_0 : vm_at cX12_never 0 (.aload_n 0) 1 1 ∧ ((0 : Fin 4) : Nat) = 0 := ⟨⟨vm_row tbX12_never 0 rfl, rfl⟩, rfl⟩
theorem dX12_never_1 : vm_at cX12_never 1 (.aload_n 0) 1 2 ∧ ((0 : Fin 4) : Nat) = 0 := ⟨⟨vm_row tbX12_never 1 rfl, rfl⟩, rfl⟩
theorem dX12_never_2 : vm_at cX12_never 2 (.getfield 182) 3 5 := ⟨vm_row tbX12_never 2 rfl, rfl⟩
theorem dX12_never_5 : vm_at cX12_never 5 (.invokevirtual 246) 3 8 := ⟨vm_row tbX12_never 3 rfl, rfl⟩
theorem dX12_never_8 : vm_at cX12_never 8 (.iconst 0) 1 9 ∧ Int32.ofInt (0) = (0 : Int32) := ⟨⟨vm_row tbX12_never 4 rfl, rfl⟩, z_iconst_0⟩
theorem dX12_never_9 : vm_at cX12_never 9 (.istore_n 2) 1 10 ∧ ((2 : Fin 4) : Nat) = 2 := ⟨⟨vm_row tbX12_never 5 rfl, rfl⟩, rfl⟩
theorem dX12_never_10 : vm_at cX12_never 10 (.iconst 0) 1 11 ∧ Int32.ofInt (0) = (0 : Int32) := ⟨⟨vm_row tbX12_never 6 rfl, rfl⟩, z_iconst_0⟩
theorem dX12_never_11 : vm_at cX12_never 11 (.istore_n 3) 1 12 ∧ ((3 : Fin 4) : Nat) = 3 := ⟨⟨vm_row tbX12_never 7 rfl, rfl⟩, rfl⟩
theorem dX12_never_12 : vm_at cX12_never 12 (.iload_n 3) 1 13 ∧ ((3 : Fin 4) : Nat) = 3 := ⟨⟨vm_row tbX12_never 8 rfl, rfl⟩, rfl⟩
theorem dX12_never_13 : vm_at cX12_never 13 (.aload_n 0) 1 14 ∧ ((0 : Fin 4) : Nat) = 0 := ⟨⟨vm_row tbX12_never 9 rfl, rfl⟩, rfl⟩
theorem dX12_never_14 : vm_at cX12_never 14 (.getfield 65) 3 17 := ⟨vm_row tbX12_never 10 rfl, rfl⟩
theorem dX12_never_17 : vm_br cX12_never 17 (.if_icmp .ge 29) 3 20 (29) 46 := ⟨vm_row tbX12_never 11 rfl, rfl, rfl⟩
theorem dX12_never_20 : vm_at cX12_never 20 (.aload_n 0) 1 21 ∧ ((0 : Fin 4) : Nat) = 0 := ⟨⟨vm_row tbX12_never 12 rfl, rfl⟩, rfl⟩
theorem dX12_never_21 : vm_at cX12_never 21 (.getfield 56) 3 24 := ⟨vm_row tbX12_never 13 rfl, rfl⟩
theorem dX12_never_24 : vm_at cX12_never 24 (.iload_n 3) 1 25 ∧ ((3 : Fin 4) : Nat) = 3 := ⟨⟨vm_row tbX12_never 14 rfl, rfl⟩, rfl⟩
theorem dX12_never_25 : vm_at cX12_never 25 (.iaload) 1 26 := ⟨vm_row tbX12_never 15 rfl, rfl⟩
theorem dX12_never_26 : vm_at cX12_never 26 (.iconst (-1)) 1 27 ∧ Int32.ofInt (-1) = (-1 : Int32) := ⟨⟨vm_row tbX12_never 16 rfl, rfl⟩, z_iconst_m1⟩
theorem dX12_never_27 : vm_br cX12_never 27 (.if_icmp .ne 13) 3 30 (13) 40 := ⟨vm_row tbX12_never 17 rfl, rfl, rfl⟩
theorem dX12_never_30 : vm_at cX12_never 30 (.iload_n 2) 1 31 ∧ ((2 : Fin 4) : Nat) = 2 := ⟨⟨vm_row tbX12_never 18 rfl, rfl⟩, rfl⟩
theorem dX12_never_31 : vm_at cX12_never 31 (.iload_n 1) 1 32 ∧ ((1 : Fin 4) : Nat) = 1 := ⟨⟨vm_row tbX12_never 19 rfl, rfl⟩, rfl⟩
theorem dX12_never_32 : vm_br cX12_never 32 (.if_icmp .ne 5) 3 35 (5) 37 := ⟨vm_row tbX12_never 20 rfl, rfl, rfl⟩
theorem dX12_never_35 : vm_at cX12_never 35 (.iload_n 3) 1 36 ∧ ((3 : Fin 4) : Nat) = 3 := ⟨⟨vm_row tbX12_never 21 rfl, rfl⟩, rfl⟩
theorem dX12_never_36 : vm_at cX12_never 36 (.ireturn) 1 37 := ⟨vm_row tbX12_never 22 rfl, rfl⟩
theorem dX12_never_37 : vm_at cX12_never 37 (.iinc 2 1) 3 40 ∧ Int32.ofInt (1) = (1 : Int32) := ⟨⟨vm_row tbX12_never 23 rfl, rfl⟩, z_iconst_1⟩
theorem dX12_never_40 : vm_at cX12_never 40 (.iinc 3 1) 3 43 ∧ Int32.ofInt (1) = (1 : Int32) := ⟨⟨vm_row tbX12_never 24 rfl, rfl⟩, z_iconst_1⟩
theorem dX12_never_43 : vm_br cX12_never 43 (.goto (-31)) 3 46 (-31) 12 := ⟨vm_row tbX12_never 25 rfl, rfl, rfl⟩
theorem dX12_never_46 : vm_at cX12_never 46 (.iload_n 1) 1 47 ∧ ((1 : Fin 4) : Nat) = 1 := ⟨⟨vm_row tbX12_never 26 rfl, rfl⟩, rfl⟩
theorem dX12_never_47 : vm_at cX12_never 47 (.iconst (-1)) 1 48 ∧ Int32.ofInt (-1) = (-1 : Int32) := ⟨⟨vm_row tbX12_never 27 rfl, rfl⟩, z_iconst_m1⟩
theorem dX12_never_48 : vm_br cX12_never 48 (.if_icmp .ne 7) 3 51 (7) 55 := ⟨vm_row tbX12_never 28 rfl, rfl, rfl⟩
theorem dX12_never_51 : vm_at cX12_never 51 (.iload_n 2) 1 52 ∧ ((2 : Fin 4) : Nat) = 2 := ⟨⟨vm_row tbX12_never 29 rfl, rfl⟩, rfl⟩
theorem dX12_never_52 : vm_br cX12_never 52 (.goto 4) 3 55 (4) 56 := ⟨vm_row tbX12_never 30 rfl, rfl, rfl⟩
theorem dX12_never_55 : vm_at cX12_never 55 (.iconst (-1)) 1 56 ∧ Int32.ofInt (-1) = (-1 : Int32) := ⟨⟨vm_row tbX12_never 31 rfl, rfl⟩, z_iconst_m1⟩
theorem dX12_never_56 : vm_at cX12_never 56 (.ireturn) 1 57 := ⟨vm_row tbX12_never 32 rfl, rfl⟩
def tlX12_farthest : List (Nat × Instr × Nat) := [(0, .iload_n 1, 1), (1, .iconst 0, 1), (2, .iconst 1, 1), (3, .invokestatic 68, 3), (6, .ifCond .ne 6, 3), (9, .ldc 72, 2), (11, .ireturn, 1), (12, .aload_n 0, 1), (13, .getfield 65, 3), (16, .ifCond .ne 7, 3), (19, .ldc_w 258, 3), (22, .ireturn, 1), (23, .aload_n 0, 1), (24, .aload_n 0, 1), (25, .getfield 182, 3), (28, .invokevirtual 246, 3), (31, .aload_n 0, 1), (32, .getfield 197, 3), (35, .istore_n 2, 1), (36, .aload_n 0, 1), (37, .getfield 65, 3), (40, .iconst 1, 1), (41, .isub, 1), (42, .istore_n 3, 1), (43, .iload_n 3, 1), (44, .ifCond .lt 30, 3), (47, .aload_n 0, 1), (48, .getfield 56, 3), (51, .iload_n 3, 1), (52, .iaload, 1), (53, .aload_n 0, 1), (54, .getfield 56, 3), (57, .iload_n 2, 1), (58, .iaload, 1), (59, .if_icmp .lt 7, 3), (62, .iload_n 3, 1), (63, .goto 4, 3), (66, .iload_n 2, 1), (67, .istore_n 2, 1), (68, .iinc 3 (-1), 3), (71, .goto (-28), 3), (74, .iload_n 1, 1), (75, .ifCond .ne 7, 3), (78, .iload_n 2, 1), (79, .goto 9, 3), (82, .aload_n 0, 1), (83, .getfield 56, 3), (86, .iload_n 2, 1), (87, .iaload, 1), (88, .ireturn, 1)]
theorem tbX12_farthest : vm_chk cX12_farthest tlX12_farthest = true := by decide +kernel
theorem dX12_farthest_0 : vm_at cX12_farthest 0 (.iload_n 1) 1 1 ∧ ((1 : Fin 4) : Nat) = 1 := ⟨⟨vm_row tbX12_farthest 0 rfl, rfl⟩, rfl⟩
theorem dX12_farthest_1 : vm_at cX12_farthest 1 (.iconst 0) 1 2 ∧ Int32.ofInt (0) = (0 : Int32) := ⟨⟨vm_row tbX12_farthest 1 rfl, rfl⟩, z_iconst_0⟩
theorem dX12_farthest_2 : vm_at cX12_farthest 2 (.iconst 1) 1 3 ∧ Int32.ofInt (1) = (1 : Int32) := ⟨⟨vm_row tbX12_farthest 2 rfl, rfl⟩, z_iconst_1⟩
theorem dX12_farthest_3 : vm_at cX12_farthest 3 (.invokestatic 68) 3 6 := ⟨vm_row tbX12_farthest 3 rfl, rfl⟩
theorem dX12_farthest_6 : vm_br cX12_farthest 6 (.ifCond .ne 6) 3 9 (6) 12 := ⟨vm_row tbX12_farthest 4 rfl, rfl, rfl⟩
theorem dX12_farthest_9 : vm_at cX12_farthest 9 (.ldc 72) 2 11 := ⟨vm_row tbX12_farthest 5 rfl, rfl⟩
theorem dX12_farthest_11 : vm_at cX12_farthest 11 (.ireturn) 1 12 := ⟨vm_row tbX12_farthest 6 rfl, rfl⟩
theorem dX12_farthest_12 : vm_at cX12_farthest 12 (.aload_n 0) 1 13 ∧ ((0 : Fin 4) : Nat) = 0 := ⟨⟨vm_row tbX12_farthest 7 rfl, rfl⟩, rfl⟩
theorem dX12_farthest_13 : vm_at cX12_farthest 13 (.getfield 65) 3 16 := ⟨vm_row tbX12_farthest 8 rfl, rfl⟩
theorem dX12_farthest_16 : vm_br cX12_farthest 16 (.ifCond .ne 7) 3 19 (7) 23 := ⟨vm_row tbX12_farthest 9 rfl, rfl, rfl⟩
theorem dX12_farthest_19 : vm_at cX12_farthest 19 (.ldc_w 258) 3 22 := ⟨vm_row tbX12_farthest 10 rfl, rfl⟩
theorem dX12_farthest_22 : vm_at cX12_farthest 22 (.ireturn) 1 23 := ⟨vm_row tbX12_farthest 11 rfl, rfl⟩
theorem dX12_farthest_23 : vm_at cX12_farthest 23 (.aload_n 0) 1 24 ∧ ((0 : Fin 4) : Nat) = 0 := ⟨⟨vm_row tbX12_farthest 12 rfl, rfl⟩, rfl⟩
theorem dX12_farthest_24 : vm_at cX12_farthest 24 (.aload_n 0) 1 25 ∧ ((0 : Fin 4) : Nat) = 0 := ⟨⟨vm_row tbX12_farthest 13 rfl, rfl⟩, rfl⟩
theorem dX12_farthest_25 : vm_at cX12_farthest 25 (.getfield 182) 3 28 := ⟨vm_row tbX12_farthest 14 rfl, rfl⟩
theorem dX12_farthest_28 : vm_at cX12_farthest 28 (.invokevirtual 246) 3 31 := ⟨vm_row tbX12_farthest 15 rfl, rfl⟩
theorem dX12_farthest_31 : vm_at cX12_farthest 31 (.aload_n 0) 1 32 ∧ ((0 : Fin 4) : Nat) = 0 := ⟨⟨vm_row tbX12_farthest 16 rfl, rfl⟩, rfl⟩
theorem dX12_farthest_32 : vm_at cX12_farthest 32 (.getfield 197) 3 35 := ⟨vm_row tbX12_farthest 17 rfl, rfl⟩
theorem dX12_farthest_35 : vm_at cX12_farthest 35 (.istore_n 2) 1 36 ∧ ((2 : Fin 4) : Nat) = 2 := ⟨⟨vm_row tbX12_farthest 18 rfl, rfl⟩, rfl⟩
theorem dX12_farthest_36 : vm_at cX12_farthest 36 (.aload_n 0) 1 37 ∧ ((0 : Fin 4) : Nat) = 0 := ⟨⟨vm_row tbX12_farthest 19 rfl, rfl⟩, rfl⟩
theorem dX12_farthest_37 : vm_at cX12_farthest 37 (.getfield 65) 3 40 := ⟨vm_row tbX12_farthest 20 rfl, rfl⟩
theorem dX12_farthest_40 : vm_at cX12_farthest 40 (.iconst 1) 1 41 ∧ Int32.ofInt (1) = (1 : Int32) := ⟨⟨vm_row tbX12_farthest 21 rfl, rfl⟩, z_iconst_1⟩
theorem dX12_farthest_41 : vm_at cX12_farthest 41 (.isub) 1 42 := ⟨vm_row tbX12_farthest 22 rfl, rfl⟩
theorem dX12_farthest_42 : vm_at cX12_farthest 42 (.istore_n 3) 1 43 ∧ ((3 : Fin 4) : Nat) = 3 := ⟨⟨vm_row tbX12_farthest 23 rfl, rfl⟩, rfl⟩
theorem dX12_farthest_43 : vm_at cX12_farthest 43 (.iload_n 3) 1 44 ∧ ((3 : Fin 4) : Nat) = 3 := ⟨⟨vm_row tbX12_farthest 24 rfl, rfl⟩, rfl⟩
theorem dX12_farthest_44 : vm_br cX12_farthest 44 (.ifCond .lt 30) 3 47 (30) 74 := ⟨vm_row tbX12_farthest 25 rfl, rfl, rfl⟩
theorem dX12_farthest_47 : vm_at cX12_farthest 47 (.aload_n 0) 1 48 ∧ ((0 : Fin 4) : Nat) = 0 := ⟨⟨vm_row tbX12_farthest 26 rfl, rfl⟩, rfl⟩
theorem dX12_farthest_48 : vm_at cX12_farthest 48 (.getfield 56) 3 51 := ⟨vm_row tbX12_farthest 27 rfl, rfl⟩
theorem dX12_farthest_51 : vm_at cX12_farthest 51 (.iload_n 3) 1 52 ∧ ((3 : Fin 4) : Nat) = 3 := ⟨⟨vm_row tbX12_farthest 28 rfl, rfl⟩, rfl⟩
theorem dX12_farthest_52 : vm_at cX12_farthest 52 (.iaload) 1 53 := ⟨vm_row tbX12_farthest 29 rfl, rfl⟩
theorem dX12_farthest_53 : vm_at cX12_farthest 53 (.aload_n 0) 1 54 ∧ ((0 : Fin 4) : Nat) = 0 := ⟨⟨vm_row tbX12_farthest 30 rfl, rfl⟩, rfl⟩
theorem dX12_farthest_54 : vm_at cX12_farthest 54 (.getfield 56) 3 57 := ⟨vm_row tbX12_farthest 31 rfl, rfl⟩
theorem dX12_farthest_57 : vm_at cX12_farthest 57 (.iload_n 2) 1 58 ∧ ((2 : Fin 4) : Nat) = 2 := ⟨⟨vm_row tbX12_farthest 32 rfl, rfl⟩, rfl⟩
theorem dX12_farthest_58 : vm_at cX12_farthest 58 (.iaload) 1 59 := ⟨vm_row tbX12_farthest 33 rfl, rfl⟩
theorem dX12_farthest_59 : vm_br cX12_farthest 59 (.if_icmp .lt 7) 3 62 (7) 66 := ⟨vm_row tbX12_farthest 34 rfl, rfl, rfl⟩
theorem dX12_farthest_62 : vm_at cX12_farthest 62 (.iload_n 3) 1 63 ∧ ((3 : Fin 4) : Nat) = 3 := ⟨⟨vm_row tbX12_farthest 35 rfl, rfl⟩, rfl⟩
theorem dX12_farthest_63 : vm_br cX12_farthest 63 (.goto 4) 3 66 (4) 67 := ⟨vm_row tbX12_farthest 36 rfl, rfl, rfl⟩
theorem dX12_farthest_66 : vm_at cX12_farthest 66 (.iload_n 2) 1 67 ∧ ((2 : Fin 4) : Nat) = 2 := ⟨⟨vm_row tbX12_farthest 37 rfl, rfl⟩, rfl⟩
theorem dX12_farthest_67 : vm_at cX12_farthest 67 (.istore_n 2) 1 68 ∧ ((2 : Fin 4) : Nat) = 2 := ⟨⟨vm_row tbX12_farthest 38 rfl, rfl⟩, rfl⟩
theorem dX12_farthest_68 : vm_at cX12_farthest 68 (.iinc 3 (-1)) 3 71 ∧ Int32.ofInt (-1) = (-1 : Int32) := ⟨⟨vm_row tbX12_farthest 39 rfl, rfl⟩, z_iconst_m1⟩
theorem dX12_farthest_71 : vm_br cX12_farthest 71 (.goto (-28)) 3 74 (-28) 43 := ⟨vm_row tbX12_farthest 40 rfl, rfl, rfl⟩
theorem dX12_farthest_74 : vm_at cX12_farthest 74 (.iload_n 1) 1 75 ∧ ((1 : Fin 4) : Nat) = 1 := ⟨⟨vm_row tbX12_farthest 41 rfl, rfl⟩, rfl⟩
theorem dX12_farthest_75 : vm_br cX12_farthest 75 (.ifCond .ne 7) 3 78 (7) 82 := ⟨vm_row tbX12_farthest 42 rfl, rfl, rfl⟩
theorem dX12_farthest_78 : vm_at cX12_farthest 78 (.iload_n 2) 1 79 ∧ ((2 : Fin 4) : Nat) = 2 := ⟨⟨vm_row tbX12_farthest 43 rfl, rfl⟩, rfl⟩
theorem dX12_farthest_79 : vm_br cX12_farthest 79 (.goto 9) 3 82 (9) 88 := ⟨vm_row tbX12_farthest 44 rfl, rfl, rfl⟩
theorem dX12_farthest_82 : vm_at cX12_farthest 82 (.aload_n 0) 1 83 ∧ ((0 : Fin 4) : Nat) = 0 := ⟨⟨vm_row tbX12_farthest 45 rfl, rfl⟩, rfl⟩
theorem dX12_farthest_83 : vm_at cX12_farthest 83 (.getfield 56) 3 86 := ⟨vm_row tbX12_farthest 46 rfl, rfl⟩
theorem dX12_farthest_86 : vm_at cX12_farthest 86 (.iload_n 2) 1 87 ∧ ((2 : Fin 4) : Nat) = 2 := ⟨⟨vm_row tbX12_farthest 47 rfl, rfl⟩, rfl⟩
theorem dX12_farthest_87 : vm_at cX12_farthest 87 (.iaload) 1 88 := ⟨vm_row tbX12_farthest 48 rfl, rfl⟩
theorem dX12_farthest_88 : vm_at cX12_farthest 88 (.ireturn) 1 89 := ⟨vm_row tbX12_farthest 49 rfl, rfl⟩
def tlX12_target : List (Nat × Instr × Nat) := [(0, .aload_n 0, 1), (1, .iload_n 1, 1), (2, .invokevirtual 243, 3), (5, .ifCond .ne 6, 3), (8, .ldc 72, 2), (10, .ireturn, 1), (11, .aload_n 0, 1), (12, .getfield 191, 3), (15, .bipush 6, 2), (17, .if_icmp .ne 6, 3), (20, .ldc 76, 2), (22, .ireturn, 1), (23, .aload_n 0, 1), (24, .getfield 26, 3), (27, .aload_n 0, 1), (28, .getfield 191, 3), (31, .iload_n 1, 1), (32, .iastore, 1), (33, .aload_n 0, 1), (34, .dup, 1), (35, .getfield 191, 3), (38, .iconst 1, 1), (39, .iadd, 1), (40, .putfield 191, 3), (43, .aload_n 0, 1), (44, .getfield 191, 3), (47, .ireturn, 1)]
theorem tbX12_target : vm_chk cX12_target tlX12_target = true := by decide +kernel
theorem dX12_target_0 : vm_at cX12_target 0 (.aload_n 0) 1 1 ∧ ((0 : Fin 4) : Nat) = 0 := ⟨⟨vm_row tbX12_target 0 rfl, rfl⟩, rfl⟩
theorem dX12_target_1 : vm_at cX12_target 1 (.iload_n 1) 1 2 ∧ ((1 : Fin 4) : Nat) = 1 := ⟨⟨vm_row tbX12_target 1 rfl, rfl⟩, rfl⟩
theorem dX12_target_2 : vm_at cX12_target 2 (.invokevirtual 243) 3 5 := ⟨vm_row tbX12_target 2 rfl, rfl⟩
theorem dX12_target_5 : vm_br cX12_target 5 (.ifCond .ne 6) 3 8 (6) 11 := ⟨vm_row tbX12_target 3 rfl, rfl, rfl⟩
theorem dX12_target_8 : vm_at cX12_target 8 (.ldc 72) 2 10 := ⟨vm_row tbX12_target 4 rfl, rfl⟩
theorem dX12_target_10 : vm_at cX12_target 10 (.ireturn) 1 11 := ⟨vm_row tbX12_target 5 rfl, rfl⟩
theorem dX12_target_11 : vm_at cX12_target 11 (.aload_n 0) 1 12 ∧ ((0 : Fin 4) : Nat) = 0 := ⟨⟨vm_row tbX12_target 6 rfl, rfl⟩, rfl⟩
theorem dX12_target_12 : vm_at cX12_target 12 (.getfield 191) 3 15 := ⟨vm_row tbX12_target 7 rfl, rfl⟩
theorem dX12_target_15 : vm_at cX12_target 15 (.bipush 6) 2 17 ∧ (Int8.ofInt (6)).toInt32 = (6 : Int32) := ⟨⟨vm_row tbX12_target 8 rfl, rfl⟩, z_bipush_6⟩
theorem dX12_target_17 : vm_br cX12_target 17 (.if_icmp .ne 6) 3 20 (6) 23 := ⟨vm_row tbX12_target 9 rfl, rfl, rfl⟩
theorem dX12_target_20 : vm_at cX12_target 20 (.ldc 76) 2 22 := ⟨vm_row tbX12_target 10 rfl, rfl⟩
theorem dX12_target_22 : vm_at cX12_target 22 (.ireturn) 1 23 := ⟨vm_row tbX12_target 11 rfl, rfl⟩
theorem dX12_target_23 : vm_at cX12_target 23 (.aload_n 0) 1 24 ∧ ((0 : Fin 4) : Nat) = 0 := ⟨⟨vm_row tbX12_target 12 rfl, rfl⟩, rfl⟩
theorem dX12_target_24 : vm_at cX12_target 24 (.getfield 26) 3 27 := ⟨vm_row tbX12_target 13 rfl, rfl⟩
theorem dX12_target_27 : vm_at cX12_target 27 (.aload_n 0) 1 28 ∧ ((0 : Fin 4) : Nat) = 0 := ⟨⟨vm_row tbX12_target 14 rfl, rfl⟩, rfl⟩
theorem dX12_target_28 : vm_at cX12_target 28 (.getfield 191) 3 31 := ⟨vm_row tbX12_target 15 rfl, rfl⟩
theorem dX12_target_31 : vm_at cX12_target 31 (.iload_n 1) 1 32 ∧ ((1 : Fin 4) : Nat) = 1 := ⟨⟨vm_row tbX12_target 16 rfl, rfl⟩, rfl⟩
theorem dX12_target_32 : vm_at cX12_target 32 (.iastore) 1 33 := ⟨vm_row tbX12_target 17 rfl, rfl⟩
theorem dX12_target_33 : vm_at cX12_target 33 (.aload_n 0) 1 34 ∧ ((0 : Fin 4) : Nat) = 0 := ⟨⟨vm_row tbX12_target 18 rfl, rfl⟩, rfl⟩
theorem dX12_target_34 : vm_at cX12_target 34 (.dup) 1 35 := ⟨vm_row tbX12_target 19 rfl, rfl⟩
theorem dX12_target_35 : vm_at cX12_target 35 (.getfield 191) 3 38 := ⟨vm_row tbX12_target 20 rfl, rfl⟩
theorem dX12_target_38 : vm_at cX12_target 38 (.iconst 1) 1 39 ∧ Int32.ofInt (1) = (1 : Int32) := ⟨⟨vm_row tbX12_target 21 rfl, rfl⟩, z_iconst_1⟩
theorem dX12_target_39 : vm_at cX12_target 39 (.iadd) 1 40 := ⟨vm_row tbX12_target 22 rfl, rfl⟩
theorem dX12_target_40 : vm_at cX12_target 40 (.putfield 191) 3 43 := ⟨vm_row tbX12_target 23 rfl, rfl⟩
theorem dX12_target_43 : vm_at cX12_target 43 (.aload_n 0) 1 44 ∧ ((0 : Fin 4) : Nat) = 0 := ⟨⟨vm_row tbX12_target 24 rfl, rfl⟩, rfl⟩
theorem dX12_target_44 : vm_at cX12_target 44 (.getfield 191) 3 47 := ⟨vm_row tbX12_target 25 rfl, rfl⟩
theorem dX12_target_47 : vm_at cX12_target 47 (.ireturn) 1 48 := ⟨vm_row tbX12_target 26 rfl, rfl⟩
def tlX12_targetAt : List (Nat × Instr × Nat) := [(0, .iload_n 1, 1), (1, .iconst 0, 1), (2, .aload_n 0, 1), (3, .getfield 191, 3), (6, .iconst 1, 1), (7, .isub, 1), (8, .invokestatic 68, 3), (11, .ifCond .eq 12, 3), (14, .aload_n 0, 1), (15, .getfield 26, 3), (18, .iload_n 1, 1), (19, .iaload, 1), (20, .goto 5, 3), (23, .ldc 210, 2), (25, .ireturn, 1)]
theorem tbX12_targetAt : vm_chk cX12_targetAt tlX12_targetAt = true := by decide +kernel
theorem dX12_targetAt_0 : vm_at cX12_targetAt 0 (.iload_n 1) 1 1 ∧ ((1 : Fin 4) : Nat) = 1 := ⟨⟨vm_row tbX12_targetAt 0 rfl, rfl⟩, rfl⟩
theorem dX12_targetAt_1 : vm_at cX12_targetAt 1 (.iconst 0) 1 2 ∧ Int32.ofInt (0) = (0 : Int32) := ⟨⟨vm_row tbX12_targetAt 1 rfl, rfl⟩, z_iconst_0⟩
theorem dX12_targetAt_2 : vm_at cX12_targetAt 2 (.aload_n 0) 1 3 ∧ ((0 : Fin 4) : Nat) = 0 := ⟨⟨vm_row tbX12_targetAt 2 rfl, rfl⟩, rfl⟩
theorem dX12_targetAt_3 : vm_at cX12_targetAt 3 (.getfield 191) 3 6 := ⟨vm_row tbX12_targetAt 3 rfl, rfl⟩
theorem dX12_targetAt_6 : vm_at cX12_targetAt 6 (.iconst 1) 1 7 ∧ Int32.ofInt (1) = (1 : Int32) := ⟨⟨vm_row tbX12_targetAt 4 rfl, rfl⟩, z_iconst_1⟩
theorem dX12_targetAt_7 : vm_at cX12_targetAt 7 (.isub) 1 8 := ⟨vm_row tbX12_targetAt 5 rfl, rfl⟩
theorem dX12_targetAt_8 : vm_at cX12_targetAt 8 (.invokestatic 68) 3 11 := ⟨vm_row tbX12_targetAt 6 rfl, rfl⟩
theorem dX12_targetAt_11 : vm_br cX12_targetAt 11 (.ifCond .eq 12) 3 14 (12) 23 := ⟨vm_row tbX12_targetAt 7 rfl, rfl, rfl⟩
theorem dX12_targetAt_14 : vm_at cX12_targetAt 14 (.aload_n 0) 1 15 ∧ ((0 : Fin 4) : Nat) = 0 := ⟨⟨vm_row tbX12_targetAt 8 rfl, rfl⟩, rfl⟩
theorem dX12_targetAt_15 : vm_at cX12_targetAt 15 (.getfield 26) 3 18 := ⟨vm_row tbX12_targetAt 9 rfl, rfl⟩
theorem dX12_targetAt_18 : vm_at cX12_targetAt 18 (.iload_n 1) 1 19 ∧ ((1 : Fin 4) : Nat) = 1 := ⟨⟨vm_row tbX12_targetAt 10 rfl, rfl⟩, rfl⟩
theorem dX12_targetAt_19 : vm_at cX12_targetAt 19 (.iaload) 1 20 := ⟨vm_row tbX12_targetAt 11 rfl, rfl⟩
theorem dX12_targetAt_20 : vm_br cX12_targetAt 20 (.goto 5) 3 23 (5) 25 := ⟨vm_row tbX12_targetAt 12 rfl, rfl, rfl⟩
theorem dX12_targetAt_23 : vm_at cX12_targetAt 23 (.ldc 210) 2 25 := ⟨vm_row tbX12_targetAt 13 rfl, rfl⟩
theorem dX12_targetAt_25 : vm_at cX12_targetAt 25 (.ireturn) 1 26 := ⟨vm_row tbX12_targetAt 14 rfl, rfl⟩
def tlX12_forget : List (Nat × Instr × Nat) := [(0, .aload_n 0, 1), (1, .getfield 191, 3), (4, .istore_n 1, 1), (5, .aload_n 0, 1), (6, .iconst 0, 1), (7, .putfield 191, 3), (10, .iload_n 1, 1), (11, .ireturn, 1)]
theorem tbX12_forget : vm_chk cX12_forget tlX12_forget = true := by decide +kernel
theorem dX12_forget_0 : vm_at cX12_forget 0 (.aload_n 0) 1 1 ∧ ((0 : Fin 4) : Nat) = 0 := ⟨⟨vm_row tbX12_forget 0 rfl, rfl⟩, rfl⟩
theorem dX12_forget_1 : vm_at cX12_forget 1 (.getfield 191) 3 4 := ⟨vm_row tbX12_forget 1 rfl, rfl⟩
theorem dX12_forget_4 : vm_at cX12_forget 4 (.istore_n 1) 1 5 ∧ ((1 : Fin 4) : Nat) = 1 := ⟨⟨vm_row tbX12_forget 2 rfl, rfl⟩, rfl⟩
theorem dX12_forget_5 : vm_at cX12_forget 5 (.aload_n 0) 1 6 ∧ ((0 : Fin 4) : Nat) = 0 := ⟨⟨vm_row tbX12_forget 3 rfl, rfl⟩, rfl⟩
theorem dX12_forget_6 : vm_at cX12_forget 6 (.iconst 0) 1 7 ∧ Int32.ofInt (0) = (0 : Int32) := ⟨⟨vm_row tbX12_forget 4 rfl, rfl⟩, z_iconst_0⟩
theorem dX12_forget_7 : vm_at cX12_forget 7 (.putfield 191) 3 10 := ⟨vm_row tbX12_forget 5 rfl, rfl⟩
theorem dX12_forget_10 : vm_at cX12_forget 10 (.iload_n 1) 1 11 ∧ ((1 : Fin 4) : Nat) = 1 := ⟨⟨vm_row tbX12_forget 6 rfl, rfl⟩, rfl⟩
theorem dX12_forget_11 : vm_at cX12_forget 11 (.ireturn) 1 12 := ⟨vm_row tbX12_forget 7 rfl, rfl⟩
def tlX12_allFewest : List (Nat × Instr × Nat) := [(0, .aload_n 0, 1), (1, .iload_n 1, 1), (2, .invokevirtual 246, 3), (5, .iconst 0, 1), (6, .istore_n 2, 1), (7, .iconst 0, 1), (8, .istore_n 3, 1), (9, .iload_n 3, 1), (10, .aload_n 0, 1), (11, .getfield 191, 3), (14, .if_icmp .ge 43, 3), (17, .iload_n 2, 1), (18, .aload_n 0, 1), (19, .getfield 56, 3), (22, .aload_n 0, 1), (23, .getfield 26, 3), (26, .iload_n 3, 1), (27, .iaload, 1), (28, .iaload, 1), (29, .iconst (-1), 1), (30, .if_icmp .ne 8, 3), (33, .bipush 99, 2), (35, .goto 14, 3), (38, .aload_n 0, 1), (39, .getfield 56, 3), (42, .aload_n 0, 1), (43, .getfield 26, 3), (46, .iload_n 3, 1), (47, .iaload, 1), (48, .iaload, 1), (49, .iadd, 1), (50, .istore_n 2, 1), (51, .iinc 3 1, 3), (54, .goto (-45), 3), (57, .iload_n 2, 1), (58, .ireturn, 1)]
theorem tbX12_allFewest : vm_chk cX12_allFewest tlX12_allFewest = true := by decide +kernel
theorem dX12_allFewest_0 : vm_at cX12_allFewest 0 (.aload_n 0) 1 1 ∧ ((0 : Fin 4) : Nat) = 0 := ⟨⟨vm_row tbX12_allFewest 0 rfl, rfl⟩, rfl⟩
theorem dX12_allFewest_1 : vm_at cX12_allFewest 1 (.iload_n 1) 1 2 ∧ ((1 : Fin 4) : Nat) = 1 := ⟨⟨vm_row tbX12_allFewest 1 rfl, rfl⟩, rfl⟩
theorem dX12_allFewest_2 : vm_at cX12_allFewest 2 (.invokevirtual 246) 3 5 := ⟨vm_row tbX12_allFewest 2 rfl, rfl⟩
theorem dX12_allFewest_5 : vm_at cX12_allFewest 5 (.iconst 0) 1 6 ∧ Int32.ofInt (0) = (0 : Int32) := ⟨⟨vm_row tbX12_allFewest 3 rfl, rfl⟩, z_iconst_0⟩
theorem dX12_allFewest_6 : vm_at cX12_allFewest 6 (.istore_n 2) 1 7 ∧ ((2 : Fin 4) : Nat) = 2 := ⟨⟨vm_row tbX12_allFewest 4 rfl, rfl⟩, rfl⟩
theorem dX12_allFewest_7 : vm_at cX12_allFewest 7 (.iconst 0) 1 8 ∧ Int32.ofInt (0) = (0 : Int32) := ⟨⟨vm_row tbX12_allFewest 5 rfl, rfl⟩, z_iconst_0⟩
theorem dX12_allFewest_8 : vm_at cX12_allFewest 8 (.istore_n 3) 1 9 ∧ ((3 : Fin 4) : Nat) = 3 := ⟨⟨vm_row tbX12_allFewest 6 rfl, rfl⟩, rfl⟩
theorem dX12_allFewest_9 : vm_at cX12_allFewest 9 (.iload_n 3) 1 10 ∧ ((3 : Fin 4) : Nat) = 3 := ⟨⟨vm_row tbX12_allFewest 7 rfl, rfl⟩, rfl⟩
theorem dX12_allFewest_10 : vm_at cX12_allFewest 10 (.aload_n 0) 1 11 ∧ ((0 : Fin 4) : Nat) = 0 := ⟨⟨vm_row tbX12_allFewest 8 rfl, rfl⟩, rfl⟩
theorem dX12_allFewest_11 : vm_at cX12_allFewest 11 (.getfield 191) 3 14 := ⟨vm_row tbX12_allFewest 9 rfl, rfl⟩
theorem dX12_allFewest_14 : vm_br cX12_allFewest 14 (.if_icmp .ge 43) 3 17 (43) 57 := ⟨vm_row tbX12_allFewest 10 rfl, rfl, rfl⟩
theorem dX12_allFewest_17 : vm_at cX12_allFewest 17 (.iload_n 2) 1 18 ∧ ((2 : Fin 4) : Nat) = 2 := ⟨⟨vm_row tbX12_allFewest 11 rfl, rfl⟩, rfl⟩
theorem dX12_allFewest_18 : vm_at cX12_allFewest 18 (.aload_n 0) 1 19 ∧ ((0 : Fin 4) : Nat) = 0 := ⟨⟨vm_row tbX12_allFewest 12 rfl, rfl⟩, rfl⟩
theorem dX12_allFewest_19 : vm_at cX12_allFewest 19 (.getfield 56) 3 22 := ⟨vm_row tbX12_allFewest 13 rfl, rfl⟩
theorem dX12_allFewest_22 : vm_at cX12_allFewest 22 (.aload_n 0) 1 23 ∧ ((0 : Fin 4) : Nat) = 0 := ⟨⟨vm_row tbX12_allFewest 14 rfl, rfl⟩, rfl⟩
theorem dX12_allFewest_23 : vm_at cX12_allFewest 23 (.getfield 26) 3 26 := ⟨vm_row tbX12_allFewest 15 rfl, rfl⟩
theorem dX12_allFewest_26 : vm_at cX12_allFewest 26 (.iload_n 3) 1 27 ∧ ((3 : Fin 4) : Nat) = 3 := ⟨⟨vm_row tbX12_allFewest 16 rfl, rfl⟩, rfl⟩
theorem dX12_allFewest_27 : vm_at cX12_allFewest 27 (.iaload) 1 28 := ⟨vm_row tbX12_allFewest 17 rfl, rfl⟩
theorem dX12_allFewest_28 : vm_at cX12_allFewest 28 (.iaload) 1 29 := ⟨vm_row tbX12_allFewest 18 rfl, rfl⟩
theorem dX12_allFewest_29 : vm_at cX12_allFewest 29 (.iconst (-1)) 1 30 ∧ Int32.ofInt (-1) = (-1 : Int32) := ⟨⟨vm_row tbX12_allFewest 19 rfl, rfl⟩, z_iconst_m1⟩
theorem dX12_allFewest_30 : vm_br cX12_allFewest 30 (.if_icmp .ne 8) 3 33 (8) 38 := ⟨vm_row tbX12_allFewest 20 rfl, rfl, rfl⟩
theorem dX12_allFewest_33 : vm_at cX12_allFewest 33 (.bipush 99) 2 35 ∧ (Int8.ofInt (99)).toInt32 = (99 : Int32) := ⟨⟨vm_row tbX12_allFewest 21 rfl, rfl⟩, z_bipush_99⟩
theorem dX12_allFewest_35 : vm_br cX12_allFewest 35 (.goto 14) 3 38 (14) 49 := ⟨vm_row tbX12_allFewest 22 rfl, rfl, rfl⟩
theorem dX12_allFewest_38 : vm_at cX12_allFewest 38 (.aload_n 0) 1 39 ∧ ((0 : Fin 4) : Nat) = 0 := ⟨⟨vm_row tbX12_allFewest 23 rfl, rfl⟩, rfl⟩
theorem dX12_allFewest_39 : vm_at cX12_allFewest 39 (.getfield 56) 3 42 := ⟨vm_row tbX12_allFewest 24 rfl, rfl⟩
theorem dX12_allFewest_42 : vm_at cX12_allFewest 42 (.aload_n 0) 1 43 ∧ ((0 : Fin 4) : Nat) = 0 := ⟨⟨vm_row tbX12_allFewest 25 rfl, rfl⟩, rfl⟩
theorem dX12_allFewest_43 : vm_at cX12_allFewest 43 (.getfield 26) 3 46 := ⟨vm_row tbX12_allFewest 26 rfl, rfl⟩
theorem dX12_allFewest_46 : vm_at cX12_allFewest 46 (.iload_n 3) 1 47 ∧ ((3 : Fin 4) : Nat) = 3 := ⟨⟨vm_row tbX12_allFewest 27 rfl, rfl⟩, rfl⟩
theorem dX12_allFewest_47 : vm_at cX12_allFewest 47 (.iaload) 1 48 := ⟨vm_row tbX12_allFewest 28 rfl, rfl⟩
theorem dX12_allFewest_48 : vm_at cX12_allFewest 48 (.iaload) 1 49 := ⟨vm_row tbX12_allFewest 29 rfl, rfl⟩
theorem dX12_allFewest_49 : vm_at cX12_allFewest 49 (.iadd) 1 50 := ⟨vm_row tbX12_allFewest 30 rfl, rfl⟩
theorem dX12_allFewest_50 : vm_at cX12_allFewest 50 (.istore_n 2) 1 51 ∧ ((2 : Fin 4) : Nat) = 2 := ⟨⟨vm_row tbX12_allFewest 31 rfl, rfl⟩, rfl⟩
theorem dX12_allFewest_51 : vm_at cX12_allFewest 51 (.iinc 3 1) 3 54 ∧ Int32.ofInt (1) = (1 : Int32) := ⟨⟨vm_row tbX12_allFewest 32 rfl, rfl⟩, z_iconst_1⟩
theorem dX12_allFewest_54 : vm_br cX12_allFewest 54 (.goto (-45)) 3 57 (-45) 9 := ⟨vm_row tbX12_allFewest 33 rfl, rfl, rfl⟩
theorem dX12_allFewest_57 : vm_at cX12_allFewest 57 (.iload_n 2) 1 58 ∧ ((2 : Fin 4) : Nat) = 2 := ⟨⟨vm_row tbX12_allFewest 34 rfl, rfl⟩, rfl⟩
theorem dX12_allFewest_58 : vm_at cX12_allFewest 58 (.ireturn) 1 59 := ⟨vm_row tbX12_allFewest 35 rfl, rfl⟩
def tlX12_more : List (Nat × Instr × Nat) := [(0, .iload_n 1, 1), (1, .iconst 0, 1), (2, .iconst 2, 1), (3, .invokestatic 68, 3), (6, .ifCond .ne 6, 3), (9, .ldc 72, 2), (11, .ireturn, 1), (12, .aload_n 0, 1), (13, .getfield 65, 3), (16, .ifCond .ne 7, 3), (19, .ldc_w 258, 3), (22, .ireturn, 1), (23, .iconst (-1), 1), (24, .istore_n 2, 1), (25, .iconst 0, 1), (26, .istore_n 3, 1), (27, .iconst 0, 1), (28, .istore 4, 2), (30, .iload 4, 2), (32, .aload_n 0, 1), (33, .getfield 176, 3), (36, .iconst 4, 1), (37, .iadd, 1), (38, .if_icmp .ge 124, 3), (41, .aload_n 0, 1), (42, .getfield 13, 3), (45, .iconst 4, 1), (46, .aload_n 0, 1), (47, .getfield 182, 3), (50, .imul, 1), (51, .iload 4, 2), (53, .aload_n 0, 1), (54, .getfield 176, 3), (57, .if_icmp .ge 7, 3), (60, .iconst 0, 1), (61, .goto 12, 3), (64, .iload 4, 2), (66, .aload_n 0, 1), (67, .getfield 176, 3), (70, .isub, 1), (71, .iconst 1, 1), (72, .iadd, 1), (73, .iastore, 1), (74, .aload_n 0, 1), (75, .getfield 13, 3), (78, .iconst 4, 1), (79, .aload_n 0, 1), (80, .getfield 182, 3), (83, .imul, 1), (84, .iconst 2, 1), (85, .iadd, 1), (86, .iload 4, 2), (88, .aload_n 0, 1), (89, .getfield 176, 3), (92, .if_icmp .ge 8, 3), (95, .iload 4, 2), (97, .goto 4, 3), (100, .iconst (-1), 1), (101, .iastore, 1), (102, .aload_n 0, 1), (103, .aload_n 0, 1), (104, .getfield 182, 3), (107, .iconst 1, 1), (108, .iadd, 1), (109, .invokevirtual 259, 3), (112, .istore 5, 2), (114, .iload_n 2, 1), (115, .iconst (-1), 1), (116, .if_icmp .eq 9, 3), (119, .iload 5, 2), (121, .iload_n 3, 1), (122, .if_icmp .ge 7, 3), (125, .iconst 1, 1), (126, .goto 4, 3), (129, .iconst 0, 1), (130, .istore 6, 2), (132, .iload 6, 2), (134, .ifCond .eq 8, 3), (137, .iload 4, 2), (139, .goto 4, 3), (142, .iload_n 2, 1), (143, .istore_n 2, 1), (144, .iload 6, 2), (146, .ifCond .eq 8, 3), (149, .iload 5, 2), (151, .goto 4, 3), (154, .iload_n 3, 1), (155, .istore_n 3, 1), (156, .iinc 4 1, 3), (159, .goto (-129), 3), (162, .iload_n 1, 1), (163, .iconst 2, 1), (164, .if_icmp .ne 7, 3), (167, .iload_n 3, 1), (168, .goto 43, 3), (171, .iload_n 1, 1), (172, .ifCond .ne 26, 3), (175, .iload_n 2, 1), (176, .aload_n 0, 1), (177, .getfield 176, 3), (180, .if_icmp .ge 7, 3), (183, .iconst 0, 1), (184, .goto 27, 3), (187, .iload_n 2, 1), (188, .aload_n 0, 1), (189, .getfield 176, 3), (192, .isub, 1), (193, .iconst 1, 1), (194, .iadd, 1), (195, .goto 16, 3), (198, .iload_n 2, 1), (199, .aload_n 0, 1), (200, .getfield 176, 3), (203, .if_icmp .ge 7, 3), (206, .iload_n 2, 1), (207, .goto 4, 3), (210, .iconst (-1), 1), (211, .ireturn, 1)]
theorem tbX12_more : vm_chk cX12_more tlX12_more = true := by decide +kernel
theorem dX12_more_0 : vm_at cX12_more 0 (.iload_n 1) 1 1 ∧ ((1 : Fin 4) : Nat) = 1 := ⟨⟨vm_row tbX12_more 0 rfl, rfl⟩, rfl⟩
theorem dX12_more_1 : vm_at cX12_more 1 (.iconst 0) 1 2 ∧ Int32.ofInt (0) = (0 : Int32) := ⟨⟨vm_row tbX12_more 1 rfl, rfl⟩, z_iconst_0⟩
theorem dX12_more_2 : vm_at cX12_more 2 (.iconst 2) 1 3 ∧ Int32.ofInt (2) = (2 : Int32) := ⟨⟨vm_row tbX12_more 2 rfl, rfl⟩, z_iconst_2⟩
theorem dX12_more_3 : vm_at cX12_more 3 (.invokestatic 68) 3 6 := ⟨vm_row tbX12_more 3 rfl, rfl⟩
theorem dX12_more_6 : vm_br cX12_more 6 (.ifCond .ne 6) 3 9 (6) 12 := ⟨vm_row tbX12_more 4 rfl, rfl, rfl⟩
theorem dX12_more_9 : vm_at cX12_more 9 (.ldc 72) 2 11 := ⟨vm_row tbX12_more 5 rfl, rfl⟩
theorem dX12_more_11 : vm_at cX12_more 11 (.ireturn) 1 12 := ⟨vm_row tbX12_more 6 rfl, rfl⟩
theorem dX12_more_12 : vm_at cX12_more 12 (.aload_n 0) 1 13 ∧ ((0 : Fin 4) : Nat) = 0 := ⟨⟨vm_row tbX12_more 7 rfl, rfl⟩, rfl⟩
theorem dX12_more_13 : vm_at cX12_more 13 (.getfield 65) 3 16 := ⟨vm_row tbX12_more 8 rfl, rfl⟩
theorem dX12_more_16 : vm_br cX12_more 16 (.ifCond .ne 7) 3 19 (7) 23 := ⟨vm_row tbX12_more 9 rfl, rfl, rfl⟩
theorem dX12_more_19 : vm_at cX12_more 19 (.ldc_w 258) 3 22 := ⟨vm_row tbX12_more 10 rfl, rfl⟩
theorem dX12_more_22 : vm_at cX12_more 22 (.ireturn) 1 23 := ⟨vm_row tbX12_more 11 rfl, rfl⟩
theorem dX12_more_23 : vm_at cX12_more 23 (.iconst (-1)) 1 24 ∧ Int32.ofInt (-1) = (-1 : Int32) := ⟨⟨vm_row tbX12_more 12 rfl, rfl⟩, z_iconst_m1⟩
theorem dX12_more_24 : vm_at cX12_more 24 (.istore_n 2) 1 25 ∧ ((2 : Fin 4) : Nat) = 2 := ⟨⟨vm_row tbX12_more 13 rfl, rfl⟩, rfl⟩
theorem dX12_more_25 : vm_at cX12_more 25 (.iconst 0) 1 26 ∧ Int32.ofInt (0) = (0 : Int32) := ⟨⟨vm_row tbX12_more 14 rfl, rfl⟩, z_iconst_0⟩
theorem dX12_more_26 : vm_at cX12_more 26 (.istore_n 3) 1 27 ∧ ((3 : Fin 4) : Nat) = 3 := ⟨⟨vm_row tbX12_more 15 rfl, rfl⟩, rfl⟩
theorem dX12_more_27 : vm_at cX12_more 27 (.iconst 0) 1 28 ∧ Int32.ofInt (0) = (0 : Int32) := ⟨⟨vm_row tbX12_more 16 rfl, rfl⟩, z_iconst_0⟩
theorem dX12_more_28 : vm_at cX12_more 28 (.istore 4) 2 30 := ⟨vm_row tbX12_more 17 rfl, rfl⟩
theorem dX12_more_30 : vm_at cX12_more 30 (.iload 4) 2 32 := ⟨vm_row tbX12_more 18 rfl, rfl⟩
theorem dX12_more_32 : vm_at cX12_more 32 (.aload_n 0) 1 33 ∧ ((0 : Fin 4) : Nat) = 0 := ⟨⟨vm_row tbX12_more 19 rfl, rfl⟩, rfl⟩
theorem dX12_more_33 : vm_at cX12_more 33 (.getfield 176) 3 36 := ⟨vm_row tbX12_more 20 rfl, rfl⟩
theorem dX12_more_36 : vm_at cX12_more 36 (.iconst 4) 1 37 ∧ Int32.ofInt (4) = (4 : Int32) := ⟨⟨vm_row tbX12_more 21 rfl, rfl⟩, z_iconst_4⟩
theorem dX12_more_37 : vm_at cX12_more 37 (.iadd) 1 38 := ⟨vm_row tbX12_more 22 rfl, rfl⟩
theorem dX12_more_38 : vm_br cX12_more 38 (.if_icmp .ge 124) 3 41 (124) 162 := ⟨vm_row tbX12_more 23 rfl, rfl, rfl⟩
theorem dX12_more_41 : vm_at cX12_more 41 (.aload_n 0) 1 42 ∧ ((0 : Fin 4) : Nat) = 0 := ⟨⟨vm_row tbX12_more 24 rfl, rfl⟩, rfl⟩
theorem dX12_more_42 : vm_at cX12_more 42 (.getfield 13) 3 45 := ⟨vm_row tbX12_more 25 rfl, rfl⟩
theorem dX12_more_45 : vm_at cX12_more 45 (.iconst 4) 1 46 ∧ Int32.ofInt (4) = (4 : Int32) := ⟨⟨vm_row tbX12_more 26 rfl, rfl⟩, z_iconst_4⟩
theorem dX12_more_46 : vm_at cX12_more 46 (.aload_n 0) 1 47 ∧ ((0 : Fin 4) : Nat) = 0 := ⟨⟨vm_row tbX12_more 27 rfl, rfl⟩, rfl⟩
theorem dX12_more_47 : vm_at cX12_more 47 (.getfield 182) 3 50 := ⟨vm_row tbX12_more 28 rfl, rfl⟩
theorem dX12_more_50 : vm_at cX12_more 50 (.imul) 1 51 := ⟨vm_row tbX12_more 29 rfl, rfl⟩
theorem dX12_more_51 : vm_at cX12_more 51 (.iload 4) 2 53 := ⟨vm_row tbX12_more 30 rfl, rfl⟩
theorem dX12_more_53 : vm_at cX12_more 53 (.aload_n 0) 1 54 ∧ ((0 : Fin 4) : Nat) = 0 := ⟨⟨vm_row tbX12_more 31 rfl, rfl⟩, rfl⟩
theorem dX12_more_54 : vm_at cX12_more 54 (.getfield 176) 3 57 := ⟨vm_row tbX12_more 32 rfl, rfl⟩
theorem dX12_more_57 : vm_br cX12_more 57 (.if_icmp .ge 7) 3 60 (7) 64 := ⟨vm_row tbX12_more 33 rfl, rfl, rfl⟩
theorem dX12_more_60 : vm_at cX12_more 60 (.iconst 0) 1 61 ∧ Int32.ofInt (0) = (0 : Int32) := ⟨⟨vm_row tbX12_more 34 rfl, rfl⟩, z_iconst_0⟩
theorem dX12_more_61 : vm_br cX12_more 61 (.goto 12) 3 64 (12) 73 := ⟨vm_row tbX12_more 35 rfl, rfl, rfl⟩
theorem dX12_more_64 : vm_at cX12_more 64 (.iload 4) 2 66 := ⟨vm_row tbX12_more 36 rfl, rfl⟩
theorem dX12_more_66 : vm_at cX12_more 66 (.aload_n 0) 1 67 ∧ ((0 : Fin 4) : Nat) = 0 := ⟨⟨vm_row tbX12_more 37 rfl, rfl⟩, rfl⟩
theorem dX12_more_67 : vm_at cX12_more 67 (.getfield 176) 3 70 := ⟨vm_row tbX12_more 38 rfl, rfl⟩
theorem dX12_more_70 : vm_at cX12_more 70 (.isub) 1 71 := ⟨vm_row tbX12_more 39 rfl, rfl⟩
theorem dX12_more_71 : vm_at cX12_more 71 (.iconst 1) 1 72 ∧ Int32.ofInt (1) = (1 : Int32) := ⟨⟨vm_row tbX12_more 40 rfl, rfl⟩, z_iconst_1⟩
theorem dX12_more_72 : vm_at cX12_more 72 (.iadd) 1 73 := ⟨vm_row tbX12_more 41 rfl, rfl⟩
theorem dX12_more_73 : vm_at cX12_more 73 (.iastore) 1 74 := ⟨vm_row tbX12_more 42 rfl, rfl⟩
theorem dX12_more_74 : vm_at cX12_more 74 (.aload_n 0) 1 75 ∧ ((0 : Fin 4) : Nat) = 0 := ⟨⟨vm_row tbX12_more 43 rfl, rfl⟩, rfl⟩
theorem dX12_more_75 : vm_at cX12_more 75 (.getfield 13) 3 78 := ⟨vm_row tbX12_more 44 rfl, rfl⟩
theorem dX12_more_78 : vm_at cX12_more 78 (.iconst 4) 1 79 ∧ Int32.ofInt (4) = (4 : Int32) := ⟨⟨vm_row tbX12_more 45 rfl, rfl⟩, z_iconst_4⟩
theorem dX12_more_79 : vm_at cX12_more 79 (.aload_n 0) 1 80 ∧ ((0 : Fin 4) : Nat) = 0 := ⟨⟨vm_row tbX12_more 46 rfl, rfl⟩, rfl⟩
theorem dX12_more_80 : vm_at cX12_more 80 (.getfield 182) 3 83 := ⟨vm_row tbX12_more 47 rfl, rfl⟩
theorem dX12_more_83 : vm_at cX12_more 83 (.imul) 1 84 := ⟨vm_row tbX12_more 48 rfl, rfl⟩
theorem dX12_more_84 : vm_at cX12_more 84 (.iconst 2) 1 85 ∧ Int32.ofInt (2) = (2 : Int32) := ⟨⟨vm_row tbX12_more 49 rfl, rfl⟩, z_iconst_2⟩
theorem dX12_more_85 : vm_at cX12_more 85 (.iadd) 1 86 := ⟨vm_row tbX12_more 50 rfl, rfl⟩
theorem dX12_more_86 : vm_at cX12_more 86 (.iload 4) 2 88 := ⟨vm_row tbX12_more 51 rfl, rfl⟩
theorem dX12_more_88 : vm_at cX12_more 88 (.aload_n 0) 1 89 ∧ ((0 : Fin 4) : Nat) = 0 := ⟨⟨vm_row tbX12_more 52 rfl, rfl⟩, rfl⟩
theorem dX12_more_89 : vm_at cX12_more 89 (.getfield 176) 3 92 := ⟨vm_row tbX12_more 53 rfl, rfl⟩
theorem dX12_more_92 : vm_br cX12_more 92 (.if_icmp .ge 8) 3 95 (8) 100 := ⟨vm_row tbX12_more 54 rfl, rfl, rfl⟩
theorem dX12_more_95 : vm_at cX12_more 95 (.iload 4) 2 97 := ⟨vm_row tbX12_more 55 rfl, rfl⟩
theorem dX12_more_97 : vm_br cX12_more 97 (.goto 4) 3 100 (4) 101 := ⟨vm_row tbX12_more 56 rfl, rfl, rfl⟩
theorem dX12_more_100 : vm_at cX12_more 100 (.iconst (-1)) 1 101 ∧ Int32.ofInt (-1) = (-1 : Int32) := ⟨⟨vm_row tbX12_more 57 rfl, rfl⟩, z_iconst_m1⟩
theorem dX12_more_101 : vm_at cX12_more 101 (.iastore) 1 102 := ⟨vm_row tbX12_more 58 rfl, rfl⟩
theorem dX12_more_102 : vm_at cX12_more 102 (.aload_n 0) 1 103 ∧ ((0 : Fin 4) : Nat) = 0 := ⟨⟨vm_row tbX12_more 59 rfl, rfl⟩, rfl⟩
theorem dX12_more_103 : vm_at cX12_more 103 (.aload_n 0) 1 104 ∧ ((0 : Fin 4) : Nat) = 0 := ⟨⟨vm_row tbX12_more 60 rfl, rfl⟩, rfl⟩
theorem dX12_more_104 : vm_at cX12_more 104 (.getfield 182) 3 107 := ⟨vm_row tbX12_more 61 rfl, rfl⟩
theorem dX12_more_107 : vm_at cX12_more 107 (.iconst 1) 1 108 ∧ Int32.ofInt (1) = (1 : Int32) := ⟨⟨vm_row tbX12_more 62 rfl, rfl⟩, z_iconst_1⟩
theorem dX12_more_108 : vm_at cX12_more 108 (.iadd) 1 109 := ⟨vm_row tbX12_more 63 rfl, rfl⟩
theorem dX12_more_109 : vm_at cX12_more 109 (.invokevirtual 259) 3 112 := ⟨vm_row tbX12_more 64 rfl, rfl⟩
theorem dX12_more_112 : vm_at cX12_more 112 (.istore 5) 2 114 := ⟨vm_row tbX12_more 65 rfl, rfl⟩
theorem dX12_more_114 : vm_at cX12_more 114 (.iload_n 2) 1 115 ∧ ((2 : Fin 4) : Nat) = 2 := ⟨⟨vm_row tbX12_more 66 rfl, rfl⟩, rfl⟩
theorem dX12_more_115 : vm_at cX12_more 115 (.iconst (-1)) 1 116 ∧ Int32.ofInt (-1) = (-1 : Int32) := ⟨⟨vm_row tbX12_more 67 rfl, rfl⟩, z_iconst_m1⟩
theorem dX12_more_116 : vm_br cX12_more 116 (.if_icmp .eq 9) 3 119 (9) 125 := ⟨vm_row tbX12_more 68 rfl, rfl, rfl⟩
theorem dX12_more_119 : vm_at cX12_more 119 (.iload 5) 2 121 := ⟨vm_row tbX12_more 69 rfl, rfl⟩
theorem dX12_more_121 : vm_at cX12_more 121 (.iload_n 3) 1 122 ∧ ((3 : Fin 4) : Nat) = 3 := ⟨⟨vm_row tbX12_more 70 rfl, rfl⟩, rfl⟩
theorem dX12_more_122 : vm_br cX12_more 122 (.if_icmp .ge 7) 3 125 (7) 129 := ⟨vm_row tbX12_more 71 rfl, rfl, rfl⟩
theorem dX12_more_125 : vm_at cX12_more 125 (.iconst 1) 1 126 ∧ Int32.ofInt (1) = (1 : Int32) := ⟨⟨vm_row tbX12_more 72 rfl, rfl⟩, z_iconst_1⟩
theorem dX12_more_126 : vm_br cX12_more 126 (.goto 4) 3 129 (4) 130 := ⟨vm_row tbX12_more 73 rfl, rfl, rfl⟩
theorem dX12_more_129 : vm_at cX12_more 129 (.iconst 0) 1 130 ∧ Int32.ofInt (0) = (0 : Int32) := ⟨⟨vm_row tbX12_more 74 rfl, rfl⟩, z_iconst_0⟩
theorem dX12_more_130 : vm_at cX12_more 130 (.istore 6) 2 132 := ⟨vm_row tbX12_more 75 rfl, rfl⟩
theorem dX12_more_132 : vm_at cX12_more 132 (.iload 6) 2 134 := ⟨vm_row tbX12_more 76 rfl, rfl⟩
theorem dX12_more_134 : vm_br cX12_more 134 (.ifCond .eq 8) 3 137 (8) 142 := ⟨vm_row tbX12_more 77 rfl, rfl, rfl⟩
theorem dX12_more_137 : vm_at cX12_more 137 (.iload 4) 2 139 := ⟨vm_row tbX12_more 78 rfl, rfl⟩
theorem dX12_more_139 : vm_br cX12_more 139 (.goto 4) 3 142 (4) 143 := ⟨vm_row tbX12_more 79 rfl, rfl, rfl⟩
theorem dX12_more_142 : vm_at cX12_more 142 (.iload_n 2) 1 143 ∧ ((2 : Fin 4) : Nat) = 2 := ⟨⟨vm_row tbX12_more 80 rfl, rfl⟩, rfl⟩
theorem dX12_more_143 : vm_at cX12_more 143 (.istore_n 2) 1 144 ∧ ((2 : Fin 4) : Nat) = 2 := ⟨⟨vm_row tbX12_more 81 rfl, rfl⟩, rfl⟩
theorem dX12_more_144 : vm_at cX12_more 144 (.iload 6) 2 146 := ⟨vm_row tbX12_more 82 rfl, rfl⟩
theorem dX12_more_146 : vm_br cX12_more 146 (.ifCond .eq 8) 3 149 (8) 154 := ⟨vm_row tbX12_more 83 rfl, rfl, rfl⟩
theorem dX12_more_149 : vm_at cX12_more 149 (.iload 5) 2 151 := ⟨vm_row tbX12_more 84 rfl, rfl⟩
theorem dX12_more_151 : vm_br cX12_more 151 (.goto 4) 3 154 (4) 155 := ⟨vm_row tbX12_more 85 rfl, rfl, rfl⟩
theorem dX12_more_154 : vm_at cX12_more 154 (.iload_n 3) 1 155 ∧ ((3 : Fin 4) : Nat) = 3 := ⟨⟨vm_row tbX12_more 86 rfl, rfl⟩, rfl⟩
theorem dX12_more_155 : vm_at cX12_more 155 (.istore_n 3) 1 156 ∧ ((3 : Fin 4) : Nat) = 3 := ⟨⟨vm_row tbX12_more 87 rfl, rfl⟩, rfl⟩
theorem dX12_more_156 : vm_at cX12_more 156 (.iinc 4 1) 3 159 ∧ Int32.ofInt (1) = (1 : Int32) := ⟨⟨vm_row tbX12_more 88 rfl, rfl⟩, z_iconst_1⟩
theorem dX12_more_159 : vm_br cX12_more 159 (.goto (-129)) 3 162 (-129) 30 := ⟨vm_row tbX12_more 89 rfl, rfl, rfl⟩
theorem dX12_more_162 : vm_at cX12_more 162 (.iload_n 1) 1 163 ∧ ((1 : Fin 4) : Nat) = 1 := ⟨⟨vm_row tbX12_more 90 rfl, rfl⟩, rfl⟩
theorem dX12_more_163 : vm_at cX12_more 163 (.iconst 2) 1 164 ∧ Int32.ofInt (2) = (2 : Int32) := ⟨⟨vm_row tbX12_more 91 rfl, rfl⟩, z_iconst_2⟩
theorem dX12_more_164 : vm_br cX12_more 164 (.if_icmp .ne 7) 3 167 (7) 171 := ⟨vm_row tbX12_more 92 rfl, rfl, rfl⟩
theorem dX12_more_167 : vm_at cX12_more 167 (.iload_n 3) 1 168 ∧ ((3 : Fin 4) : Nat) = 3 := ⟨⟨vm_row tbX12_more 93 rfl, rfl⟩, rfl⟩
theorem dX12_more_168 : vm_br cX12_more 168 (.goto 43) 3 171 (43) 211 := ⟨vm_row tbX12_more 94 rfl, rfl, rfl⟩
theorem dX12_more_171 : vm_at cX12_more 171 (.iload_n 1) 1 172 ∧ ((1 : Fin 4) : Nat) = 1 := ⟨⟨vm_row tbX12_more 95 rfl, rfl⟩, rfl⟩
theorem dX12_more_172 : vm_br cX12_more 172 (.ifCond .ne 26) 3 175 (26) 198 := ⟨vm_row tbX12_more 96 rfl, rfl, rfl⟩
theorem dX12_more_175 : vm_at cX12_more 175 (.iload_n 2) 1 176 ∧ ((2 : Fin 4) : Nat) = 2 := ⟨⟨vm_row tbX12_more 97 rfl, rfl⟩, rfl⟩
theorem dX12_more_176 : vm_at cX12_more 176 (.aload_n 0) 1 177 ∧ ((0 : Fin 4) : Nat) = 0 := ⟨⟨vm_row tbX12_more 98 rfl, rfl⟩, rfl⟩
theorem dX12_more_177 : vm_at cX12_more 177 (.getfield 176) 3 180 := ⟨vm_row tbX12_more 99 rfl, rfl⟩
theorem dX12_more_180 : vm_br cX12_more 180 (.if_icmp .ge 7) 3 183 (7) 187 := ⟨vm_row tbX12_more 100 rfl, rfl, rfl⟩
theorem dX12_more_183 : vm_at cX12_more 183 (.iconst 0) 1 184 ∧ Int32.ofInt (0) = (0 : Int32) := ⟨⟨vm_row tbX12_more 101 rfl, rfl⟩, z_iconst_0⟩
theorem dX12_more_184 : vm_br cX12_more 184 (.goto 27) 3 187 (27) 211 := ⟨vm_row tbX12_more 102 rfl, rfl, rfl⟩
theorem dX12_more_187 : vm_at cX12_more 187 (.iload_n 2) 1 188 ∧ ((2 : Fin 4) : Nat) = 2 := ⟨⟨vm_row tbX12_more 103 rfl, rfl⟩, rfl⟩
theorem dX12_more_188 : vm_at cX12_more 188 (.aload_n 0) 1 189 ∧ ((0 : Fin 4) : Nat) = 0 := ⟨⟨vm_row tbX12_more 104 rfl, rfl⟩, rfl⟩
theorem dX12_more_189 : vm_at cX12_more 189 (.getfield 176) 3 192 := ⟨vm_row tbX12_more 105 rfl, rfl⟩
theorem dX12_more_192 : vm_at cX12_more 192 (.isub) 1 193 := ⟨vm_row tbX12_more 106 rfl, rfl⟩
theorem dX12_more_193 : vm_at cX12_more 193 (.iconst 1) 1 194 ∧ Int32.ofInt (1) = (1 : Int32) := ⟨⟨vm_row tbX12_more 107 rfl, rfl⟩, z_iconst_1⟩
theorem dX12_more_194 : vm_at cX12_more 194 (.iadd) 1 195 := ⟨vm_row tbX12_more 108 rfl, rfl⟩
theorem dX12_more_195 : vm_br cX12_more 195 (.goto 16) 3 198 (16) 211 := ⟨vm_row tbX12_more 109 rfl, rfl, rfl⟩
theorem dX12_more_198 : vm_at cX12_more 198 (.iload_n 2) 1 199 ∧ ((2 : Fin 4) : Nat) = 2 := ⟨⟨vm_row tbX12_more 110 rfl, rfl⟩, rfl⟩
theorem dX12_more_199 : vm_at cX12_more 199 (.aload_n 0) 1 200 ∧ ((0 : Fin 4) : Nat) = 0 := ⟨⟨vm_row tbX12_more 111 rfl, rfl⟩, rfl⟩
theorem dX12_more_200 : vm_at cX12_more 200 (.getfield 176) 3 203 := ⟨vm_row tbX12_more 112 rfl, rfl⟩
theorem dX12_more_203 : vm_br cX12_more 203 (.if_icmp .ge 7) 3 206 (7) 210 := ⟨vm_row tbX12_more 113 rfl, rfl, rfl⟩
theorem dX12_more_206 : vm_at cX12_more 206 (.iload_n 2) 1 207 ∧ ((2 : Fin 4) : Nat) = 2 := ⟨⟨vm_row tbX12_more 114 rfl, rfl⟩, rfl⟩
theorem dX12_more_207 : vm_br cX12_more 207 (.goto 4) 3 210 (4) 211 := ⟨vm_row tbX12_more 115 rfl, rfl, rfl⟩
theorem dX12_more_210 : vm_at cX12_more 210 (.iconst (-1)) 1 211 ∧ Int32.ofInt (-1) = (-1 : Int32) := ⟨⟨vm_row tbX12_more 116 rfl, rfl⟩, z_iconst_m1⟩
theorem dX12_more_211 : vm_at cX12_more 211 (.ireturn) 1 212 := ⟨vm_row tbX12_more 117 rfl, rfl⟩
def tlX12_goOn : List (Nat × Instr × Nat) := [(0, .iload_n 1, 1), (1, .istore_n 3, 1), (2, .iload_n 3, 1), (3, .aload_n 0, 1), (4, .getfield 191, 3), (7, .if_icmp .ge 19, 3), (10, .aload_n 0, 1), (11, .getfield 26, 3), (14, .iload_n 3, 1), (15, .iaload, 1), (16, .iload_n 2, 1), (17, .if_icmp .ne 9, 3), (20, .iinc 3 1, 3), (23, .goto (-21), 3), (26, .iload_n 3, 1), (27, .ireturn, 1)]
theorem tbX12_goOn : vm_chk cX12_goOn tlX12_goOn = true := by decide +kernel
theorem dX12_goOn_0 : vm_at cX12_goOn 0 (.iload_n 1) 1 1 ∧ ((1 : Fin 4) : Nat) = 1 := ⟨⟨vm_row tbX12_goOn 0 rfl, rfl⟩, rfl⟩
theorem dX12_goOn_1 : vm_at cX12_goOn 1 (.istore_n 3) 1 2 ∧ ((3 : Fin 4) : Nat) = 3 := ⟨⟨vm_row tbX12_goOn 1 rfl, rfl⟩, rfl⟩
theorem dX12_goOn_2 : vm_at cX12_goOn 2 (.iload_n 3) 1 3 ∧ ((3 : Fin 4) : Nat) = 3 := ⟨⟨vm_row tbX12_goOn 2 rfl, rfl⟩, rfl⟩
theorem dX12_goOn_3 : vm_at cX12_goOn 3 (.aload_n 0) 1 4 ∧ ((0 : Fin 4) : Nat) = 0 := ⟨⟨vm_row tbX12_goOn 3 rfl, rfl⟩, rfl⟩
theorem dX12_goOn_4 : vm_at cX12_goOn 4 (.getfield 191) 3 7 := ⟨vm_row tbX12_goOn 4 rfl, rfl⟩
theorem dX12_goOn_7 : vm_br cX12_goOn 7 (.if_icmp .ge 19) 3 10 (19) 26 := ⟨vm_row tbX12_goOn 5 rfl, rfl, rfl⟩
theorem dX12_goOn_10 : vm_at cX12_goOn 10 (.aload_n 0) 1 11 ∧ ((0 : Fin 4) : Nat) = 0 := ⟨⟨vm_row tbX12_goOn 6 rfl, rfl⟩, rfl⟩
theorem dX12_goOn_11 : vm_at cX12_goOn 11 (.getfield 26) 3 14 := ⟨vm_row tbX12_goOn 7 rfl, rfl⟩
theorem dX12_goOn_14 : vm_at cX12_goOn 14 (.iload_n 3) 1 15 ∧ ((3 : Fin 4) : Nat) = 3 := ⟨⟨vm_row tbX12_goOn 8 rfl, rfl⟩, rfl⟩
theorem dX12_goOn_15 : vm_at cX12_goOn 15 (.iaload) 1 16 := ⟨vm_row tbX12_goOn 9 rfl, rfl⟩
theorem dX12_goOn_16 : vm_at cX12_goOn 16 (.iload_n 2) 1 17 ∧ ((2 : Fin 4) : Nat) = 2 := ⟨⟨vm_row tbX12_goOn 10 rfl, rfl⟩, rfl⟩
theorem dX12_goOn_17 : vm_br cX12_goOn 17 (.if_icmp .ne 9) 3 20 (9) 26 := ⟨vm_row tbX12_goOn 11 rfl, rfl, rfl⟩
theorem dX12_goOn_20 : vm_at cX12_goOn 20 (.iinc 3 1) 3 23 ∧ Int32.ofInt (1) = (1 : Int32) := ⟨⟨vm_row tbX12_goOn 12 rfl, rfl⟩, z_iconst_1⟩
theorem dX12_goOn_23 : vm_br cX12_goOn 23 (.goto (-21)) 3 26 (-21) 2 := ⟨vm_row tbX12_goOn 13 rfl, rfl, rfl⟩
theorem dX12_goOn_26 : vm_at cX12_goOn 26 (.iload_n 3) 1 27 ∧ ((3 : Fin 4) : Nat) = 3 := ⟨⟨vm_row tbX12_goOn 14 rfl, rfl⟩, rfl⟩
theorem dX12_goOn_27 : vm_at cX12_goOn 27 (.ireturn) 1 28 := ⟨vm_row tbX12_goOn 15 rfl, rfl⟩
def tlX12_listOf : List (Nat × Instr × Nat) := [(0, .aload_n 0, 1), (1, .invokevirtual 229, 3), (4, .istore_n 1, 1), (5, .aload_n 0, 1), (6, .iconst 0, 1), (7, .aload_n 0, 1), (8, .getfield 197, 3), (11, .invokevirtual 262, 3), (14, .istore_n 2, 1), (15, .iconst 1, 1), (16, .istore_n 3, 1), (17, .aload_n 0, 1), (18, .getfield 53, 3), (21, .iconst 0, 1), (22, .iload_n 1, 1), (23, .iastore, 1), (24, .aload_n 0, 1), (25, .getfield 50, 3), (28, .iconst 0, 1), (29, .iconst 0, 1), (30, .iastore, 1), (31, .iload_n 2, 1), (32, .aload_n 0, 1), (33, .getfield 191, 3), (36, .if_icmp .ne 7, 3), (39, .iconst 0, 1), (40, .goto 4, 3), (43, .iconst (-1), 1), (44, .istore 4, 2), (46, .iload 4, 2), (48, .iconst (-1), 1), (49, .if_icmp .ne 7, 3), (52, .iconst 1, 1), (53, .goto 4, 3), (56, .iconst 0, 1), (57, .istore 5, 2), (59, .iload 5, 2), (61, .ifCond .eq 375, 3), (64, .iconst 0, 1), (65, .istore 6, 2), (67, .iload 6, 2), (69, .aload_n 0, 1), (70, .invokevirtual 233, 3), (73, .if_icmp .ge 17, 3), (76, .aload_n 0, 1), (77, .getfield 44, 3), (80, .iload 6, 2), (82, .iconst (-1), 1), (83, .iastore, 1), (84, .iinc 6 1, 3), (87, .goto (-20), 3), (90, .iconst 0, 1), (91, .istore 6, 2), (93, .iconst 0, 1), (94, .istore 7, 2), (96, .iconst 0, 1), (97, .istore 8, 2), (99, .iconst 0, 1), (100, .istore 9, 2), (102, .iload 8, 2), (104, .iload 6, 2), (106, .if_icmp .lt 9, 3), (109, .iload 7, 2), (111, .iload_n 3, 1), (112, .if_icmp .ge 173, 3), (115, .iload 7, 2), (117, .iload_n 3, 1), (118, .if_icmp .ge 85, 3), (121, .iload 8, 2), (123, .iload 6, 2), (125, .if_icmp .eq 25, 3), (128, .aload_n 0, 1), (129, .getfield 50, 3), (132, .iload 7, 2), (134, .iaload, 1), (135, .aload_n 0, 1), (136, .getfield 44, 3), (139, .aload_n 0, 1), (140, .getfield 47, 3), (143, .iload 8, 2), (145, .iaload, 1), (146, .iaload, 1), (147, .if_icmp .gt 56, 3), (150, .aload_n 0, 1), (151, .getfield 53, 3), (154, .iload 7, 2), (156, .iaload, 1), (157, .istore 10, 2), (159, .aload_n 0, 1), (160, .getfield 44, 3), (163, .iload 10, 2), (165, .iaload, 1), (166, .iconst (-1), 1), (167, .if_icmp .ne 30, 3), (170, .aload_n 0, 1), (171, .getfield 44, 3), (174, .iload 10, 2), (176, .aload_n 0, 1), (177, .getfield 50, 3), (180, .iload 7, 2), (182, .iaload, 1), (183, .iastore, 1), (184, .aload_n 0, 1), (185, .iload 8, 2), (187, .iload 6, 2), (189, .iload 10, 2), (191, .invokevirtual 265, 3), (194, .iinc 6 1, 3), (197, .iinc 7 1, 3), (200, .goto (-98), 3), (203, .aload_n 0, 1), (204, .getfield 47, 3), (207, .iload 8, 2), (209, .iaload, 1), (210, .istore 10, 2), (212, .iinc 8 1, 3), (215, .iconst 0, 1), (216, .istore 11, 2), (218, .iload 11, 2), (220, .aload_n 0, 1), (221, .getfield 182, 3), (224, .if_icmp .ge 58, 3), (227, .aload_n 0, 1), (228, .iload 10, 2), (230, .iload 11, 2), (232, .invokevirtual 239, 3), (235, .istore 12, 2), (237, .aload_n 0, 1), (238, .getfield 44, 3), (241, .iload 12, 2), (243, .iaload, 1), (244, .iconst (-1), 1), (245, .if_icmp .ne 31, 3), (248, .aload_n 0, 1), (249, .getfield 44, 3), (252, .iload 12, 2), (254, .aload_n 0, 1), (255, .getfield 44, 3), (258, .iload 10, 2), (260, .iaload, 1), (261, .iconst 1, 1), (262, .iadd, 1), (263, .iastore, 1), (264, .aload_n 0, 1), (265, .getfield 47, 3), (268, .iload 6, 2), (270, .iload 12, 2), (272, .iastore, 1), (273, .iinc 6 1, 3), (276, .iinc 11 1, 3), (279, .goto (-61), 3), (282, .goto (-180), 3), (285, .aload_n 0, 1), (286, .getfield 26, 3), (289, .iload_n 2, 1), (290, .iaload, 1), (291, .istore 10, 2), (293, .iconst 0, 1), (294, .istore 11, 2), (296, .iload 11, 2), (298, .iload 6, 2), (300, .if_icmp .ge 42, 3), (303, .aload_n 0, 1), (304, .aload_n 0, 1), (305, .getfield 47, 3), (308, .iload 11, 2), (310, .iaload, 1), (311, .invokevirtual 236, 3), (314, .iload 10, 2), (316, .if_icmp .ne 20, 3), (319, .aload_n 0, 1), (320, .getfield 53, 3), (323, .iload 9, 2), (325, .aload_n 0, 1), (326, .getfield 47, 3), (329, .iload 11, 2), (331, .iaload, 1), (332, .iastore, 1), (333, .iinc 9 1, 3), (336, .iinc 11 1, 3), (339, .goto (-43), 3), (342, .iconst 0, 1), (343, .istore 11, 2), (345, .iload 11, 2), (347, .iload 9, 2), (349, .if_icmp .ge 28, 3), (352, .aload_n 0, 1), (353, .getfield 50, 3), (356, .iload 11, 2), (358, .aload_n 0, 1), (359, .getfield 44, 3), (362, .aload_n 0, 1), (363, .getfield 53, 3), (366, .iload 11, 2), (368, .iaload, 1), (369, .iaload, 1), (370, .iastore, 1), (371, .iinc 11 1, 3), (374, .goto (-29), 3), (377, .iload 9, 2), (379, .istore_n 3, 1), (380, .aload_n 0, 1), (381, .iload_n 2, 1), (382, .iload 10, 2), (384, .invokevirtual 262, 3), (387, .istore_n 2, 1), (388, .iload_n 2, 1), (389, .aload_n 0, 1), (390, .getfield 191, 3), (393, .if_icmp .ne 17, 3), (396, .iload 9, 2), (398, .ifCond .le 12, 3), (401, .aload_n 0, 1), (402, .getfield 50, 3), (405, .iconst 0, 1), (406, .iaload, 1), (407, .goto 4, 3), (410, .iconst (-1), 1), (411, .istore 4, 2), (413, .iload 9, 2), (415, .ifCond .le 15, 3), (418, .iload_n 2, 1), (419, .aload_n 0, 1), (420, .getfield 191, 3), (423, .if_icmp .ge 7, 3), (426, .iconst 1, 1), (427, .goto 4, 3), (430, .iconst 0, 1), (431, .istore 5, 2), (433, .goto (-374), 3), (436, .aload_n 0, 1), (437, .iload_n 1, 1), (438, .invokevirtual 223, 3), (441, .iload 4, 2), (443, .ireturn, 1)]
theorem tbX12_listOf : vm_chk cX12_listOf tlX12_listOf = true := by decide +kernel
theorem dX12_listOf_0 : vm_at cX12_listOf 0 (.aload_n 0) 1 1 ∧ ((0 : Fin 4) : Nat) = 0 := ⟨⟨vm_row tbX12_listOf 0 rfl, rfl⟩, rfl⟩
theorem dX12_listOf_1 : vm_at cX12_listOf 1 (.invokevirtual 229) 3 4 := ⟨vm_row tbX12_listOf 1 rfl, rfl⟩
theorem dX12_listOf_4 : vm_at cX12_listOf 4 (.istore_n 1) 1 5 ∧ ((1 : Fin 4) : Nat) = 1 := ⟨⟨vm_row tbX12_listOf 2 rfl, rfl⟩, rfl⟩
theorem dX12_listOf_5 : vm_at cX12_listOf 5 (.aload_n 0) 1 6 ∧ ((0 : Fin 4) : Nat) = 0 := ⟨⟨vm_row tbX12_listOf 3 rfl, rfl⟩, rfl⟩
theorem dX12_listOf_6 : vm_at cX12_listOf 6 (.iconst 0) 1 7 ∧ Int32.ofInt (0) = (0 : Int32) := ⟨⟨vm_row tbX12_listOf 4 rfl, rfl⟩, z_iconst_0⟩
theorem dX12_listOf_7 : vm_at cX12_listOf 7 (.aload_n 0) 1 8 ∧ ((0 : Fin 4) : Nat) = 0 := ⟨⟨vm_row tbX12_listOf 5 rfl, rfl⟩, rfl⟩
theorem dX12_listOf_8 : vm_at cX12_listOf 8 (.getfield 197) 3 11 := ⟨vm_row tbX12_listOf 6 rfl, rfl⟩
theorem dX12_listOf_11 : vm_at cX12_listOf 11 (.invokevirtual 262) 3 14 := ⟨vm_row tbX12_listOf 7 rfl, rfl⟩
theorem dX12_listOf_14 : vm_at cX12_listOf 14 (.istore_n 2) 1 15 ∧ ((2 : Fin 4) : Nat) = 2 := ⟨⟨vm_row tbX12_listOf 8 rfl, rfl⟩, rfl⟩
theorem dX12_listOf_15 : vm_at cX12_listOf 15 (.iconst 1) 1 16 ∧ Int32.ofInt (1) = (1 : Int32) := ⟨⟨vm_row tbX12_listOf 9 rfl, rfl⟩, z_iconst_1⟩
theorem dX12_listOf_16 : vm_at cX12_listOf 16 (.istore_n 3) 1 17 ∧ ((3 : Fin 4) : Nat) = 3 := ⟨⟨vm_row tbX12_listOf 10 rfl, rfl⟩, rfl⟩
theorem dX12_listOf_17 : vm_at cX12_listOf 17 (.aload_n 0) 1 18 ∧ ((0 : Fin 4) : Nat) = 0 := ⟨⟨vm_row tbX12_listOf 11 rfl, rfl⟩, rfl⟩
theorem dX12_listOf_18 : vm_at cX12_listOf 18 (.getfield 53) 3 21 := ⟨vm_row tbX12_listOf 12 rfl, rfl⟩
theorem dX12_listOf_21 : vm_at cX12_listOf 21 (.iconst 0) 1 22 ∧ Int32.ofInt (0) = (0 : Int32) := ⟨⟨vm_row tbX12_listOf 13 rfl, rfl⟩, z_iconst_0⟩
theorem dX12_listOf_22 : vm_at cX12_listOf 22 (.iload_n 1) 1 23 ∧ ((1 : Fin 4) : Nat) = 1 := ⟨⟨vm_row tbX12_listOf 14 rfl, rfl⟩, rfl⟩
theorem dX12_listOf_23 : vm_at cX12_listOf 23 (.iastore) 1 24 := ⟨vm_row tbX12_listOf 15 rfl, rfl⟩
theorem dX12_listOf_24 : vm_at cX12_listOf 24 (.aload_n 0) 1 25 ∧ ((0 : Fin 4) : Nat) = 0 := ⟨⟨vm_row tbX12_listOf 16 rfl, rfl⟩, rfl⟩
theorem dX12_listOf_25 : vm_at cX12_listOf 25 (.getfield 50) 3 28 := ⟨vm_row tbX12_listOf 17 rfl, rfl⟩
theorem dX12_listOf_28 : vm_at cX12_listOf 28 (.iconst 0) 1 29 ∧ Int32.ofInt (0) = (0 : Int32) := ⟨⟨vm_row tbX12_listOf 18 rfl, rfl⟩, z_iconst_0⟩
theorem dX12_listOf_29 : vm_at cX12_listOf 29 (.iconst 0) 1 30 ∧ Int32.ofInt (0) = (0 : Int32) := ⟨⟨vm_row tbX12_listOf 19 rfl, rfl⟩, z_iconst_0⟩
theorem dX12_listOf_30 : vm_at cX12_listOf 30 (.iastore) 1 31 := ⟨vm_row tbX12_listOf 20 rfl, rfl⟩
theorem dX12_listOf_31 : vm_at cX12_listOf 31 (.iload_n 2) 1 32 ∧ ((2 : Fin 4) : Nat) = 2 := ⟨⟨vm_row tbX12_listOf 21 rfl, rfl⟩, rfl⟩
theorem dX12_listOf_32 : vm_at cX12_listOf 32 (.aload_n 0) 1 33 ∧ ((0 : Fin 4) : Nat) = 0 := ⟨⟨vm_row tbX12_listOf 22 rfl, rfl⟩, rfl⟩
theorem dX12_listOf_33 : vm_at cX12_listOf 33 (.getfield 191) 3 36 := ⟨vm_row tbX12_listOf 23 rfl, rfl⟩
theorem dX12_listOf_36 : vm_br cX12_listOf 36 (.if_icmp .ne 7) 3 39 (7) 43 := ⟨vm_row tbX12_listOf 24 rfl, rfl, rfl⟩
theorem dX12_listOf_39 : vm_at cX12_listOf 39 (.iconst 0) 1 40 ∧ Int32.ofInt (0) = (0 : Int32) := ⟨⟨vm_row tbX12_listOf 25 rfl, rfl⟩, z_iconst_0⟩
theorem dX12_listOf_40 : vm_br cX12_listOf 40 (.goto 4) 3 43 (4) 44 := ⟨vm_row tbX12_listOf 26 rfl, rfl, rfl⟩
theorem dX12_listOf_43 : vm_at cX12_listOf 43 (.iconst (-1)) 1 44 ∧ Int32.ofInt (-1) = (-1 : Int32) := ⟨⟨vm_row tbX12_listOf 27 rfl, rfl⟩, z_iconst_m1⟩
theorem dX12_listOf_44 : vm_at cX12_listOf 44 (.istore 4) 2 46 := ⟨vm_row tbX12_listOf 28 rfl, rfl⟩
theorem dX12_listOf_46 : vm_at cX12_listOf 46 (.iload 4) 2 48 := ⟨vm_row tbX12_listOf 29 rfl, rfl⟩
theorem dX12_listOf_48 : vm_at cX12_listOf 48 (.iconst (-1)) 1 49 ∧ Int32.ofInt (-1) = (-1 : Int32) := ⟨⟨vm_row tbX12_listOf 30 rfl, rfl⟩, z_iconst_m1⟩
theorem dX12_listOf_49 : vm_br cX12_listOf 49 (.if_icmp .ne 7) 3 52 (7) 56 := ⟨vm_row tbX12_listOf 31 rfl, rfl, rfl⟩
theorem dX12_listOf_52 : vm_at cX12_listOf 52 (.iconst 1) 1 53 ∧ Int32.ofInt (1) = (1 : Int32) := ⟨⟨vm_row tbX12_listOf 32 rfl, rfl⟩, z_iconst_1⟩
theorem dX12_listOf_53 : vm_br cX12_listOf 53 (.goto 4) 3 56 (4) 57 := ⟨vm_row tbX12_listOf 33 rfl, rfl, rfl⟩
theorem dX12_listOf_56 : vm_at cX12_listOf 56 (.iconst 0) 1 57 ∧ Int32.ofInt (0) = (0 : Int32) := ⟨⟨vm_row tbX12_listOf 34 rfl, rfl⟩, z_iconst_0⟩
theorem dX12_listOf_57 : vm_at cX12_listOf 57 (.istore 5) 2 59 := ⟨vm_row tbX12_listOf 35 rfl, rfl⟩
theorem dX12_listOf_59 : vm_at cX12_listOf 59 (.iload 5) 2 61 := ⟨vm_row tbX12_listOf 36 rfl, rfl⟩
theorem dX12_listOf_61 : vm_br cX12_listOf 61 (.ifCond .eq 375) 3 64 (375) 436 := ⟨vm_row tbX12_listOf 37 rfl, rfl, rfl⟩
theorem dX12_listOf_64 : vm_at cX12_listOf 64 (.iconst 0) 1 65 ∧ Int32.ofInt (0) = (0 : Int32) := ⟨⟨vm_row tbX12_listOf 38 rfl, rfl⟩, z_iconst_0⟩
theorem dX12_listOf_65 : vm_at cX12_listOf 65 (.istore 6) 2 67 := ⟨vm_row tbX12_listOf 39 rfl, rfl⟩
theorem dX12_listOf_67 : vm_at cX12_listOf 67 (.iload 6) 2 69 := ⟨vm_row tbX12_listOf 40 rfl, rfl⟩
theorem dX12_listOf_69 : vm_at cX12_listOf 69 (.aload_n 0) 1 70 ∧ ((0 : Fin 4) : Nat) = 0 := ⟨⟨vm_row tbX12_listOf 41 rfl, rfl⟩, rfl⟩
theorem dX12_listOf_70 : vm_at cX12_listOf 70 (.invokevirtual 233) 3 73 := ⟨vm_row tbX12_listOf 42 rfl, rfl⟩
theorem dX12_listOf_73 : vm_br cX12_listOf 73 (.if_icmp .ge 17) 3 76 (17) 90 := ⟨vm_row tbX12_listOf 43 rfl, rfl, rfl⟩
theorem dX12_listOf_76 : vm_at cX12_listOf 76 (.aload_n 0) 1 77 ∧ ((0 : Fin 4) : Nat) = 0 := ⟨⟨vm_row tbX12_listOf 44 rfl, rfl⟩, rfl⟩
theorem dX12_listOf_77 : vm_at cX12_listOf 77 (.getfield 44) 3 80 := ⟨vm_row tbX12_listOf 45 rfl, rfl⟩
theorem dX12_listOf_80 : vm_at cX12_listOf 80 (.iload 6) 2 82 := ⟨vm_row tbX12_listOf 46 rfl, rfl⟩
theorem dX12_listOf_82 : vm_at cX12_listOf 82 (.iconst (-1)) 1 83 ∧ Int32.ofInt (-1) = (-1 : Int32) := ⟨⟨vm_row tbX12_listOf 47 rfl, rfl⟩, z_iconst_m1⟩
theorem dX12_listOf_83 : vm_at cX12_listOf 83 (.iastore) 1 84 := ⟨vm_row tbX12_listOf 48 rfl, rfl⟩
theorem dX12_listOf_84 : vm_at cX12_listOf 84 (.iinc 6 1) 3 87 ∧ Int32.ofInt (1) = (1 : Int32) := ⟨⟨vm_row tbX12_listOf 49 rfl, rfl⟩, z_iconst_1⟩
theorem dX12_listOf_87 : vm_br cX12_listOf 87 (.goto (-20)) 3 90 (-20) 67 := ⟨vm_row tbX12_listOf 50 rfl, rfl, rfl⟩
theorem dX12_listOf_90 : vm_at cX12_listOf 90 (.iconst 0) 1 91 ∧ Int32.ofInt (0) = (0 : Int32) := ⟨⟨vm_row tbX12_listOf 51 rfl, rfl⟩, z_iconst_0⟩
theorem dX12_listOf_91 : vm_at cX12_listOf 91 (.istore 6) 2 93 := ⟨vm_row tbX12_listOf 52 rfl, rfl⟩
theorem dX12_listOf_93 : vm_at cX12_listOf 93 (.iconst 0) 1 94 ∧ Int32.ofInt (0) = (0 : Int32) := ⟨⟨vm_row tbX12_listOf 53 rfl, rfl⟩, z_iconst_0⟩
theorem dX12_listOf_94 : vm_at cX12_listOf 94 (.istore 7) 2 96 := ⟨vm_row tbX12_listOf 54 rfl, rfl⟩
theorem dX12_listOf_96 : vm_at cX12_listOf 96 (.iconst 0) 1 97 ∧ Int32.ofInt (0) = (0 : Int32) := ⟨⟨vm_row tbX12_listOf 55 rfl, rfl⟩, z_iconst_0⟩
theorem dX12_listOf_97 : vm_at cX12_listOf 97 (.istore 8) 2 99 := ⟨vm_row tbX12_listOf 56 rfl, rfl⟩
theorem dX12_listOf_99 : vm_at cX12_listOf 99 (.iconst 0) 1 100 ∧ Int32.ofInt (0) = (0 : Int32) := ⟨⟨vm_row tbX12_listOf 57 rfl, rfl⟩, z_iconst_0⟩
theorem dX12_listOf_100 : vm_at cX12_listOf 100 (.istore 9) 2 102 := ⟨vm_row tbX12_listOf 58 rfl, rfl⟩
theorem dX12_listOf_102 : vm_at cX12_listOf 102 (.iload 8) 2 104 := ⟨vm_row tbX12_listOf 59 rfl, rfl⟩
theorem dX12_listOf_104 : vm_at cX12_listOf 104 (.iload 6) 2 106 := ⟨vm_row tbX12_listOf 60 rfl, rfl⟩
theorem dX12_listOf_106 : vm_br cX12_listOf 106 (.if_icmp .lt 9) 3 109 (9) 115 := ⟨vm_row tbX12_listOf 61 rfl, rfl, rfl⟩
theorem dX12_listOf_109 : vm_at cX12_listOf 109 (.iload 7) 2 111 := ⟨vm_row tbX12_listOf 62 rfl, rfl⟩
theorem dX12_listOf_111 : vm_at cX12_listOf 111 (.iload_n 3) 1 112 ∧ ((3 : Fin 4) : Nat) = 3 := ⟨⟨vm_row tbX12_listOf 63 rfl, rfl⟩, rfl⟩
theorem dX12_listOf_112 : vm_br cX12_listOf 112 (.if_icmp .ge 173) 3 115 (173) 285 := ⟨vm_row tbX12_listOf 64 rfl, rfl, rfl⟩
theorem dX12_listOf_115 : vm_at cX12_listOf 115 (.iload 7) 2 117 := ⟨vm_row tbX12_listOf 65 rfl, rfl⟩
theorem dX12_listOf_117 : vm_at cX12_listOf 117 (.iload_n 3) 1 118 ∧ ((3 : Fin 4) : Nat) = 3 := ⟨⟨vm_row tbX12_listOf 66 rfl, rfl⟩, rfl⟩
theorem dX12_listOf_118 : vm_br cX12_listOf 118 (.if_icmp .ge 85) 3 121 (85) 203 := ⟨vm_row tbX12_listOf 67 rfl, rfl, rfl⟩
theorem dX12_listOf_121 : vm_at cX12_listOf 121 (.iload 8) 2 123 := ⟨vm_row tbX12_listOf 68 rfl, rfl⟩
theorem dX12_listOf_123 : vm_at cX12_listOf 123 (.iload 6) 2 125 := ⟨vm_row tbX12_listOf 69 rfl, rfl⟩
theorem dX12_listOf_125 : vm_br cX12_listOf 125 (.if_icmp .eq 25) 3 128 (25) 150 := ⟨vm_row tbX12_listOf 70 rfl, rfl, rfl⟩
theorem dX12_listOf_128 : vm_at cX12_listOf 128 (.aload_n 0) 1 129 ∧ ((0 : Fin 4) : Nat) = 0 := ⟨⟨vm_row tbX12_listOf 71 rfl, rfl⟩, rfl⟩
theorem dX12_listOf_129 : vm_at cX12_listOf 129 (.getfield 50) 3 132 := ⟨vm_row tbX12_listOf 72 rfl, rfl⟩
theorem dX12_listOf_132 : vm_at cX12_listOf 132 (.iload 7) 2 134 := ⟨vm_row tbX12_listOf 73 rfl, rfl⟩
theorem dX12_listOf_134 : vm_at cX12_listOf 134 (.iaload) 1 135 := ⟨vm_row tbX12_listOf 74 rfl, rfl⟩
theorem dX12_listOf_135 : vm_at cX12_listOf 135 (.aload_n 0) 1 136 ∧ ((0 : Fin 4) : Nat) = 0 := ⟨⟨vm_row tbX12_listOf 75 rfl, rfl⟩, rfl⟩
theorem dX12_listOf_136 : vm_at cX12_listOf 136 (.getfield 44) 3 139 := ⟨vm_row tbX12_listOf 76 rfl, rfl⟩
theorem dX12_listOf_139 : vm_at cX12_listOf 139 (.aload_n 0) 1 140 ∧ ((0 : Fin 4) : Nat) = 0 := ⟨⟨vm_row tbX12_listOf 77 rfl, rfl⟩, rfl⟩
theorem dX12_listOf_140 : vm_at cX12_listOf 140 (.getfield 47) 3 143 := ⟨vm_row tbX12_listOf 78 rfl, rfl⟩
theorem dX12_listOf_143 : vm_at cX12_listOf 143 (.iload 8) 2 145 := ⟨vm_row tbX12_listOf 79 rfl, rfl⟩
theorem dX12_listOf_145 : vm_at cX12_listOf 145 (.iaload) 1 146 := ⟨vm_row tbX12_listOf 80 rfl, rfl⟩
theorem dX12_listOf_146 : vm_at cX12_listOf 146 (.iaload) 1 147 := ⟨vm_row tbX12_listOf 81 rfl, rfl⟩
theorem dX12_listOf_147 : vm_br cX12_listOf 147 (.if_icmp .gt 56) 3 150 (56) 203 := ⟨vm_row tbX12_listOf 82 rfl, rfl, rfl⟩
theorem dX12_listOf_150 : vm_at cX12_listOf 150 (.aload_n 0) 1 151 ∧ ((0 : Fin 4) : Nat) = 0 := ⟨⟨vm_row tbX12_listOf 83 rfl, rfl⟩, rfl⟩
theorem dX12_listOf_151 : vm_at cX12_listOf 151 (.getfield 53) 3 154 := ⟨vm_row tbX12_listOf 84 rfl, rfl⟩
theorem dX12_listOf_154 : vm_at cX12_listOf 154 (.iload 7) 2 156 := ⟨vm_row tbX12_listOf 85 rfl, rfl⟩
theorem dX12_listOf_156 : vm_at cX12_listOf 156 (.iaload) 1 157 := ⟨vm_row tbX12_listOf 86 rfl, rfl⟩
theorem dX12_listOf_157 : vm_at cX12_listOf 157 (.istore 10) 2 159 := ⟨vm_row tbX12_listOf 87 rfl, rfl⟩
theorem dX12_listOf_159 : vm_at cX12_listOf 159 (.aload_n 0) 1 160 ∧ ((0 : Fin 4) : Nat) = 0 := ⟨⟨vm_row tbX12_listOf 88 rfl, rfl⟩, rfl⟩
theorem dX12_listOf_160 : vm_at cX12_listOf 160 (.getfield 44) 3 163 := ⟨vm_row tbX12_listOf 89 rfl, rfl⟩
theorem dX12_listOf_163 : vm_at cX12_listOf 163 (.iload 10) 2 165 := ⟨vm_row tbX12_listOf 90 rfl, rfl⟩
theorem dX12_listOf_165 : vm_at cX12_listOf 165 (.iaload) 1 166 := ⟨vm_row tbX12_listOf 91 rfl, rfl⟩
theorem dX12_listOf_166 : vm_at cX12_listOf 166 (.iconst (-1)) 1 167 ∧ Int32.ofInt (-1) = (-1 : Int32) := ⟨⟨vm_row tbX12_listOf 92 rfl, rfl⟩, z_iconst_m1⟩
theorem dX12_listOf_167 : vm_br cX12_listOf 167 (.if_icmp .ne 30) 3 170 (30) 197 := ⟨vm_row tbX12_listOf 93 rfl, rfl, rfl⟩
theorem dX12_listOf_170 : vm_at cX12_listOf 170 (.aload_n 0) 1 171 ∧ ((0 : Fin 4) : Nat) = 0 := ⟨⟨vm_row tbX12_listOf 94 rfl, rfl⟩, rfl⟩
theorem dX12_listOf_171 : vm_at cX12_listOf 171 (.getfield 44) 3 174 := ⟨vm_row tbX12_listOf 95 rfl, rfl⟩
theorem dX12_listOf_174 : vm_at cX12_listOf 174 (.iload 10) 2 176 := ⟨vm_row tbX12_listOf 96 rfl, rfl⟩
theorem dX12_listOf_176 : vm_at cX12_listOf 176 (.aload_n 0) 1 177 ∧ ((0 : Fin 4) : Nat) = 0 := ⟨⟨vm_row tbX12_listOf 97 rfl, rfl⟩, rfl⟩
theorem dX12_listOf_177 : vm_at cX12_listOf 177 (.getfield 50) 3 180 := ⟨vm_row tbX12_listOf 98 rfl, rfl⟩
theorem dX12_listOf_180 : vm_at cX12_listOf 180 (.iload 7) 2 182 := ⟨vm_row tbX12_listOf 99 rfl, rfl⟩
theorem dX12_listOf_182 : vm_at cX12_listOf 182 (.iaload) 1 183 := ⟨vm_row tbX12_listOf 100 rfl, rfl⟩
theorem dX12_listOf_183 : vm_at cX12_listOf 183 (.iastore) 1 184 := ⟨vm_row tbX12_listOf 101 rfl, rfl⟩
theorem dX12_listOf_184 : vm_at cX12_listOf 184 (.aload_n 0) 1 185 ∧ ((0 : Fin 4) : Nat) = 0 := ⟨⟨vm_row tbX12_listOf 102 rfl, rfl⟩, rfl⟩
theorem dX12_listOf_185 : vm_at cX12_listOf 185 (.iload 8) 2 187 := ⟨vm_row tbX12_listOf 103 rfl, rfl⟩
theorem dX12_listOf_187 : vm_at cX12_listOf 187 (.iload 6) 2 189 := ⟨vm_row tbX12_listOf 104 rfl, rfl⟩
theorem dX12_listOf_189 : vm_at cX12_listOf 189 (.iload 10) 2 191 := ⟨vm_row tbX12_listOf 105 rfl, rfl⟩
theorem dX12_listOf_191 : vm_at cX12_listOf 191 (.invokevirtual 265) 3 194 := ⟨vm_row tbX12_listOf 106 rfl, rfl⟩
theorem dX12_listOf_194 : vm_at cX12_listOf 194 (.iinc 6 1) 3 197 ∧ Int32.ofInt (1) = (1 : Int32) := ⟨⟨vm_row tbX12_listOf 107 rfl, rfl⟩, z_iconst_1⟩
theorem dX12_listOf_197 : vm_at cX12_listOf 197 (.iinc 7 1) 3 200 ∧ Int32.ofInt (1) = (1 : Int32) := ⟨⟨vm_row tbX12_listOf 108 rfl, rfl⟩, z_iconst_1⟩
theorem dX12_listOf_200 : vm_br cX12_listOf 200 (.goto (-98)) 3 203 (-98) 102 := ⟨vm_row tbX12_listOf 109 rfl, rfl, rfl⟩
theorem dX12_listOf_203 : vm_at cX12_listOf 203 (.aload_n 0) 1 204 ∧ ((0 : Fin 4) : Nat) = 0 := ⟨⟨vm_row tbX12_listOf 110 rfl, rfl⟩, rfl⟩
theorem dX12_listOf_204 : vm_at cX12_listOf 204 (.getfield 47) 3 207 := ⟨vm_row tbX12_listOf 111 rfl, rfl⟩
theorem dX12_listOf_207 : vm_at cX12_listOf 207 (.iload 8) 2 209 := ⟨vm_row tbX12_listOf 112 rfl, rfl⟩
theorem dX12_listOf_209 : vm_at cX12_listOf 209 (.iaload) 1 210 := ⟨vm_row tbX12_listOf 113 rfl, rfl⟩
theorem dX12_listOf_210 : vm_at cX12_listOf 210 (.istore 10) 2 212 := ⟨vm_row tbX12_listOf 114 rfl, rfl⟩
theorem dX12_listOf_212 : vm_at cX12_listOf 212 (.iinc 8 1) 3 215 ∧ Int32.ofInt (1) = (1 : Int32) := ⟨⟨vm_row tbX12_listOf 115 rfl, rfl⟩, z_iconst_1⟩
theorem dX12_listOf_215 : vm_at cX12_listOf 215 (.iconst 0) 1 216 ∧ Int32.ofInt (0) = (0 : Int32) := ⟨⟨vm_row tbX12_listOf 116 rfl, rfl⟩, z_iconst_0⟩
theorem dX12_listOf_216 : vm_at cX12_listOf 216 (.istore 11) 2 218 := ⟨vm_row tbX12_listOf 117 rfl, rfl⟩
theorem dX12_listOf_218 : vm_at cX12_listOf 218 (.iload 11) 2 220 := ⟨vm_row tbX12_listOf 118 rfl, rfl⟩
theorem dX12_listOf_220 : vm_at cX12_listOf 220 (.aload_n 0) 1 221 ∧ ((0 : Fin 4) : Nat) = 0 := ⟨⟨vm_row tbX12_listOf 119 rfl, rfl⟩, rfl⟩
theorem dX12_listOf_221 : vm_at cX12_listOf 221 (.getfield 182) 3 224 := ⟨vm_row tbX12_listOf 120 rfl, rfl⟩
theorem dX12_listOf_224 : vm_br cX12_listOf 224 (.if_icmp .ge 58) 3 227 (58) 282 := ⟨vm_row tbX12_listOf 121 rfl, rfl, rfl⟩
theorem dX12_listOf_227 : vm_at cX12_listOf 227 (.aload_n 0) 1 228 ∧ ((0 : Fin 4) : Nat) = 0 := ⟨⟨vm_row tbX12_listOf 122 rfl, rfl⟩, rfl⟩
theorem dX12_listOf_228 : vm_at cX12_listOf 228 (.iload 10) 2 230 := ⟨vm_row tbX12_listOf 123 rfl, rfl⟩
theorem dX12_listOf_230 : vm_at cX12_listOf 230 (.iload 11) 2 232 := ⟨vm_row tbX12_listOf 124 rfl, rfl⟩
theorem dX12_listOf_232 : vm_at cX12_listOf 232 (.invokevirtual 239) 3 235 := ⟨vm_row tbX12_listOf 125 rfl, rfl⟩
theorem dX12_listOf_235 : vm_at cX12_listOf 235 (.istore 12) 2 237 := ⟨vm_row tbX12_listOf 126 rfl, rfl⟩
theorem dX12_listOf_237 : vm_at cX12_listOf 237 (.aload_n 0) 1 238 ∧ ((0 : Fin 4) : Nat) = 0 := ⟨⟨vm_row tbX12_listOf 127 rfl, rfl⟩, rfl⟩
theorem dX12_listOf_238 : vm_at cX12_listOf 238 (.getfield 44) 3 241 := ⟨vm_row tbX12_listOf 128 rfl, rfl⟩
theorem dX12_listOf_241 : vm_at cX12_listOf 241 (.iload 12) 2 243 := ⟨vm_row tbX12_listOf 129 rfl, rfl⟩
theorem dX12_listOf_243 : vm_at cX12_listOf 243 (.iaload) 1 244 := ⟨vm_row tbX12_listOf 130 rfl, rfl⟩
theorem dX12_listOf_244 : vm_at cX12_listOf 244 (.iconst (-1)) 1 245 ∧ Int32.ofInt (-1) = (-1 : Int32) := ⟨⟨vm_row tbX12_listOf 131 rfl, rfl⟩, z_iconst_m1⟩
theorem dX12_listOf_245 : vm_br cX12_listOf 245 (.if_icmp .ne 31) 3 248 (31) 276 := ⟨vm_row tbX12_listOf 132 rfl, rfl, rfl⟩
theorem dX12_listOf_248 : vm_at cX12_listOf 248 (.aload_n 0) 1 249 ∧ ((0 : Fin 4) : Nat) = 0 := ⟨⟨vm_row tbX12_listOf 133 rfl, rfl⟩, rfl⟩
theorem dX12_listOf_249 : vm_at cX12_listOf 249 (.getfield 44) 3 252 := ⟨vm_row tbX12_listOf 134 rfl, rfl⟩
theorem dX12_listOf_252 : vm_at cX12_listOf 252 (.iload 12) 2 254 := ⟨vm_row tbX12_listOf 135 rfl, rfl⟩
theorem dX12_listOf_254 : vm_at cX12_listOf 254 (.aload_n 0) 1 255 ∧ ((0 : Fin 4) : Nat) = 0 := ⟨⟨vm_row tbX12_listOf 136 rfl, rfl⟩, rfl⟩
theorem dX12_listOf_255 : vm_at cX12_listOf 255 (.getfield 44) 3 258 := ⟨vm_row tbX12_listOf 137 rfl, rfl⟩
theorem dX12_listOf_258 : vm_at cX12_listOf 258 (.iload 10) 2 260 := ⟨vm_row tbX12_listOf 138 rfl, rfl⟩
theorem dX12_listOf_260 : vm_at cX12_listOf 260 (.iaload) 1 261 := ⟨vm_row tbX12_listOf 139 rfl, rfl⟩
theorem dX12_listOf_261 : vm_at cX12_listOf 261 (.iconst 1) 1 262 ∧ Int32.ofInt (1) = (1 : Int32) := ⟨⟨vm_row tbX12_listOf 140 rfl, rfl⟩, z_iconst_1⟩
theorem dX12_listOf_262 : vm_at cX12_listOf 262 (.iadd) 1 263 := ⟨vm_row tbX12_listOf 141 rfl, rfl⟩
theorem dX12_listOf_263 : vm_at cX12_listOf 263 (.iastore) 1 264 := ⟨vm_row tbX12_listOf 142 rfl, rfl⟩
theorem dX12_listOf_264 : vm_at cX12_listOf 264 (.aload_n 0) 1 265 ∧ ((0 : Fin 4) : Nat) = 0 := ⟨⟨vm_row tbX12_listOf 143 rfl, rfl⟩, rfl⟩
theorem dX12_listOf_265 : vm_at cX12_listOf 265 (.getfield 47) 3 268 := ⟨vm_row tbX12_listOf 144 rfl, rfl⟩
theorem dX12_listOf_268 : vm_at cX12_listOf 268 (.iload 6) 2 270 := ⟨vm_row tbX12_listOf 145 rfl, rfl⟩
theorem dX12_listOf_270 : vm_at cX12_listOf 270 (.iload 12) 2 272 := ⟨vm_row tbX12_listOf 146 rfl, rfl⟩
theorem dX12_listOf_272 : vm_at cX12_listOf 272 (.iastore) 1 273 := ⟨vm_row tbX12_listOf 147 rfl, rfl⟩
theorem dX12_listOf_273 : vm_at cX12_listOf 273 (.iinc 6 1) 3 276 ∧ Int32.ofInt (1) = (1 : Int32) := ⟨⟨vm_row tbX12_listOf 148 rfl, rfl⟩, z_iconst_1⟩
theorem dX12_listOf_276 : vm_at cX12_listOf 276 (.iinc 11 1) 3 279 ∧ Int32.ofInt (1) = (1 : Int32) := ⟨⟨vm_row tbX12_listOf 149 rfl, rfl⟩, z_iconst_1⟩
theorem dX12_listOf_279 : vm_br cX12_listOf 279 (.goto (-61)) 3 282 (-61) 218 := ⟨vm_row tbX12_listOf 150 rfl, rfl, rfl⟩
theorem dX12_listOf_282 : vm_br cX12_listOf 282 (.goto (-180)) 3 285 (-180) 102 := ⟨vm_row tbX12_listOf 151 rfl, rfl, rfl⟩
theorem dX12_listOf_285 : vm_at cX12_listOf 285 (.aload_n 0) 1 286 ∧ ((0 : Fin 4) : Nat) = 0 := ⟨⟨vm_row tbX12_listOf 152 rfl, rfl⟩, rfl⟩
theorem dX12_listOf_286 : vm_at cX12_listOf 286 (.getfield 26) 3 289 := ⟨vm_row tbX12_listOf 153 rfl, rfl⟩
theorem dX12_listOf_289 : vm_at cX12_listOf 289 (.iload_n 2) 1 290 ∧ ((2 : Fin 4) : Nat) = 2 := ⟨⟨vm_row tbX12_listOf 154 rfl, rfl⟩, rfl⟩
theorem dX12_listOf_290 : vm_at cX12_listOf 290 (.iaload) 1 291 := ⟨vm_row tbX12_listOf 155 rfl, rfl⟩
theorem dX12_listOf_291 : vm_at cX12_listOf 291 (.istore 10) 2 293 := ⟨vm_row tbX12_listOf 156 rfl, rfl⟩
theorem dX12_listOf_293 : vm_at cX12_listOf 293 (.iconst 0) 1 294 ∧ Int32.ofInt (0) = (0 : Int32) := ⟨⟨vm_row tbX12_listOf 157 rfl, rfl⟩, z_iconst_0⟩
theorem dX12_listOf_294 : vm_at cX12_listOf 294 (.istore 11) 2 296 := ⟨vm_row tbX12_listOf 158 rfl, rfl⟩
theorem dX12_listOf_296 : vm_at cX12_listOf 296 (.iload 11) 2 298 := ⟨vm_row tbX12_listOf 159 rfl, rfl⟩
theorem dX12_listOf_298 : vm_at cX12_listOf 298 (.iload 6) 2 300 := ⟨vm_row tbX12_listOf 160 rfl, rfl⟩
theorem dX12_listOf_300 : vm_br cX12_listOf 300 (.if_icmp .ge 42) 3 303 (42) 342 := ⟨vm_row tbX12_listOf 161 rfl, rfl, rfl⟩
theorem dX12_listOf_303 : vm_at cX12_listOf 303 (.aload_n 0) 1 304 ∧ ((0 : Fin 4) : Nat) = 0 := ⟨⟨vm_row tbX12_listOf 162 rfl, rfl⟩, rfl⟩
theorem dX12_listOf_304 : vm_at cX12_listOf 304 (.aload_n 0) 1 305 ∧ ((0 : Fin 4) : Nat) = 0 := ⟨⟨vm_row tbX12_listOf 163 rfl, rfl⟩, rfl⟩
theorem dX12_listOf_305 : vm_at cX12_listOf 305 (.getfield 47) 3 308 := ⟨vm_row tbX12_listOf 164 rfl, rfl⟩
theorem dX12_listOf_308 : vm_at cX12_listOf 308 (.iload 11) 2 310 := ⟨vm_row tbX12_listOf 165 rfl, rfl⟩
theorem dX12_listOf_310 : vm_at cX12_listOf 310 (.iaload) 1 311 := ⟨vm_row tbX12_listOf 166 rfl, rfl⟩
theorem dX12_listOf_311 : vm_at cX12_listOf 311 (.invokevirtual 236) 3 314 := ⟨vm_row tbX12_listOf 167 rfl, rfl⟩
theorem dX12_listOf_314 : vm_at cX12_listOf 314 (.iload 10) 2 316 := ⟨vm_row tbX12_listOf 168 rfl, rfl⟩
theorem dX12_listOf_316 : vm_br cX12_listOf 316 (.if_icmp .ne 20) 3 319 (20) 336 := ⟨vm_row tbX12_listOf 169 rfl, rfl, rfl⟩
theorem dX12_listOf_319 : vm_at cX12_listOf 319 (.aload_n 0) 1 320 ∧ ((0 : Fin 4) : Nat) = 0 := ⟨⟨vm_row tbX12_listOf 170 rfl, rfl⟩, rfl⟩
theorem dX12_listOf_320 : vm_at cX12_listOf 320 (.getfield 53) 3 323 := ⟨vm_row tbX12_listOf 171 rfl, rfl⟩
theorem dX12_listOf_323 : vm_at cX12_listOf 323 (.iload 9) 2 325 := ⟨vm_row tbX12_listOf 172 rfl, rfl⟩
theorem dX12_listOf_325 : vm_at cX12_listOf 325 (.aload_n 0) 1 326 ∧ ((0 : Fin 4) : Nat) = 0 := ⟨⟨vm_row tbX12_listOf 173 rfl, rfl⟩, rfl⟩
theorem dX12_listOf_326 : vm_at cX12_listOf 326 (.getfield 47) 3 329 := ⟨vm_row tbX12_listOf 174 rfl, rfl⟩
theorem dX12_listOf_329 : vm_at cX12_listOf 329 (.iload 11) 2 331 := ⟨vm_row tbX12_listOf 175 rfl, rfl⟩
theorem dX12_listOf_331 : vm_at cX12_listOf 331 (.iaload) 1 332 := ⟨vm_row tbX12_listOf 176 rfl, rfl⟩
theorem dX12_listOf_332 : vm_at cX12_listOf 332 (.iastore) 1 333 := ⟨vm_row tbX12_listOf 177 rfl, rfl⟩
theorem dX12_listOf_333 : vm_at cX12_listOf 333 (.iinc 9 1) 3 336 ∧ Int32.ofInt (1) = (1 : Int32) := ⟨⟨vm_row tbX12_listOf 178 rfl, rfl⟩, z_iconst_1⟩
theorem dX12_listOf_336 : vm_at cX12_listOf 336 (.iinc 11 1) 3 339 ∧ Int32.ofInt (1) = (1 : Int32) := ⟨⟨vm_row tbX12_listOf 179 rfl, rfl⟩, z_iconst_1⟩
theorem dX12_listOf_339 : vm_br cX12_listOf 339 (.goto (-43)) 3 342 (-43) 296 := ⟨vm_row tbX12_listOf 180 rfl, rfl, rfl⟩
theorem dX12_listOf_342 : vm_at cX12_listOf 342 (.iconst 0) 1 343 ∧ Int32.ofInt (0) = (0 : Int32) := ⟨⟨vm_row tbX12_listOf 181 rfl, rfl⟩, z_iconst_0⟩
theorem dX12_listOf_343 : vm_at cX12_listOf 343 (.istore 11) 2 345 := ⟨vm_row tbX12_listOf 182 rfl, rfl⟩
theorem dX12_listOf_345 : vm_at cX12_listOf 345 (.iload 11) 2 347 := ⟨vm_row tbX12_listOf 183 rfl, rfl⟩
theorem dX12_listOf_347 : vm_at cX12_listOf 347 (.iload 9) 2 349 := ⟨vm_row tbX12_listOf 184 rfl, rfl⟩
theorem dX12_listOf_349 : vm_br cX12_listOf 349 (.if_icmp .ge 28) 3 352 (28) 377 := ⟨vm_row tbX12_listOf 185 rfl, rfl, rfl⟩
theorem dX12_listOf_352 : vm_at cX12_listOf 352 (.aload_n 0) 1 353 ∧ ((0 : Fin 4) : Nat) = 0 := ⟨⟨vm_row tbX12_listOf 186 rfl, rfl⟩, rfl⟩
theorem dX12_listOf_353 : vm_at cX12_listOf 353 (.getfield 50) 3 356 := ⟨vm_row tbX12_listOf 187 rfl, rfl⟩
theorem dX12_listOf_356 : vm_at cX12_listOf 356 (.iload 11) 2 358 := ⟨vm_row tbX12_listOf 188 rfl, rfl⟩
theorem dX12_listOf_358 : vm_at cX12_listOf 358 (.aload_n 0) 1 359 ∧ ((0 : Fin 4) : Nat) = 0 := ⟨⟨vm_row tbX12_listOf 189 rfl, rfl⟩, rfl⟩
theorem dX12_listOf_359 : vm_at cX12_listOf 359 (.getfield 44) 3 362 := ⟨vm_row tbX12_listOf 190 rfl, rfl⟩
theorem dX12_listOf_362 : vm_at cX12_listOf 362 (.aload_n 0) 1 363 ∧ ((0 : Fin 4) : Nat) = 0 := ⟨⟨vm_row tbX12_listOf 191 rfl, rfl⟩, rfl⟩
theorem dX12_listOf_363 : vm_at cX12_listOf 363 (.getfield 53) 3 366 := ⟨vm_row tbX12_listOf 192 rfl, rfl⟩
theorem dX12_listOf_366 : vm_at cX12_listOf 366 (.iload 11) 2 368 := ⟨vm_row tbX12_listOf 193 rfl, rfl⟩
theorem dX12_listOf_368 : vm_at cX12_listOf 368 (.iaload) 1 369 := ⟨vm_row tbX12_listOf 194 rfl, rfl⟩
theorem dX12_listOf_369 : vm_at cX12_listOf 369 (.iaload) 1 370 := ⟨vm_row tbX12_listOf 195 rfl, rfl⟩
theorem dX12_listOf_370 : vm_at cX12_listOf 370 (.iastore) 1 371 := ⟨vm_row tbX12_listOf 196 rfl, rfl⟩
theorem dX12_listOf_371 : vm_at cX12_listOf 371 (.iinc 11 1) 3 374 ∧ Int32.ofInt (1) = (1 : Int32) := ⟨⟨vm_row tbX12_listOf 197 rfl, rfl⟩, z_iconst_1⟩
theorem dX12_listOf_374 : vm_br cX12_listOf 374 (.goto (-29)) 3 377 (-29) 345 := ⟨vm_row tbX12_listOf 198 rfl, rfl, rfl⟩
theorem dX12_listOf_377 : vm_at cX12_listOf 377 (.iload 9) 2 379 := ⟨vm_row tbX12_listOf 199 rfl, rfl⟩
theorem dX12_listOf_379 : vm_at cX12_listOf 379 (.istore_n 3) 1 380 ∧ ((3 : Fin 4) : Nat) = 3 := ⟨⟨vm_row tbX12_listOf 200 rfl, rfl⟩, rfl⟩
theorem dX12_listOf_380 : vm_at cX12_listOf 380 (.aload_n 0) 1 381 ∧ ((0 : Fin 4) : Nat) = 0 := ⟨⟨vm_row tbX12_listOf 201 rfl, rfl⟩, rfl⟩
theorem dX12_listOf_381 : vm_at cX12_listOf 381 (.iload_n 2) 1 382 ∧ ((2 : Fin 4) : Nat) = 2 := ⟨⟨vm_row tbX12_listOf 202 rfl, rfl⟩, rfl⟩
theorem dX12_listOf_382 : vm_at cX12_listOf 382 (.iload 10) 2 384 := ⟨vm_row tbX12_listOf 203 rfl, rfl⟩
theorem dX12_listOf_384 : vm_at cX12_listOf 384 (.invokevirtual 262) 3 387 := ⟨vm_row tbX12_listOf 204 rfl, rfl⟩
theorem dX12_listOf_387 : vm_at cX12_listOf 387 (.istore_n 2) 1 388 ∧ ((2 : Fin 4) : Nat) = 2 := ⟨⟨vm_row tbX12_listOf 205 rfl, rfl⟩, rfl⟩
theorem dX12_listOf_388 : vm_at cX12_listOf 388 (.iload_n 2) 1 389 ∧ ((2 : Fin 4) : Nat) = 2 := ⟨⟨vm_row tbX12_listOf 206 rfl, rfl⟩, rfl⟩
theorem dX12_listOf_389 : vm_at cX12_listOf 389 (.aload_n 0) 1 390 ∧ ((0 : Fin 4) : Nat) = 0 := ⟨⟨vm_row tbX12_listOf 207 rfl, rfl⟩, rfl⟩
theorem dX12_listOf_390 : vm_at cX12_listOf 390 (.getfield 191) 3 393 := ⟨vm_row tbX12_listOf 208 rfl, rfl⟩
theorem dX12_listOf_393 : vm_br cX12_listOf 393 (.if_icmp .ne 17) 3 396 (17) 410 := ⟨vm_row tbX12_listOf 209 rfl, rfl, rfl⟩
theorem dX12_listOf_396 : vm_at cX12_listOf 396 (.iload 9) 2 398 := ⟨vm_row tbX12_listOf 210 rfl, rfl⟩
theorem dX12_listOf_398 : vm_br cX12_listOf 398 (.ifCond .le 12) 3 401 (12) 410 := ⟨vm_row tbX12_listOf 211 rfl, rfl, rfl⟩
theorem dX12_listOf_401 : vm_at cX12_listOf 401 (.aload_n 0) 1 402 ∧ ((0 : Fin 4) : Nat) = 0 := ⟨⟨vm_row tbX12_listOf 212 rfl, rfl⟩, rfl⟩
theorem dX12_listOf_402 : vm_at cX12_listOf 402 (.getfield 50) 3 405 := ⟨vm_row tbX12_listOf 213 rfl, rfl⟩
theorem dX12_listOf_405 : vm_at cX12_listOf 405 (.iconst 0) 1 406 ∧ Int32.ofInt (0) = (0 : Int32) := ⟨⟨vm_row tbX12_listOf 214 rfl, rfl⟩, z_iconst_0⟩
theorem dX12_listOf_406 : vm_at cX12_listOf 406 (.iaload) 1 407 := ⟨vm_row tbX12_listOf 215 rfl, rfl⟩
theorem dX12_listOf_407 : vm_br cX12_listOf 407 (.goto 4) 3 410 (4) 411 := ⟨vm_row tbX12_listOf 216 rfl, rfl, rfl⟩
theorem dX12_listOf_410 : vm_at cX12_listOf 410 (.iconst (-1)) 1 411 ∧ Int32.ofInt (-1) = (-1 : Int32) := ⟨⟨vm_row tbX12_listOf 217 rfl, rfl⟩, z_iconst_m1⟩
theorem dX12_listOf_411 : vm_at cX12_listOf 411 (.istore 4) 2 413 := ⟨vm_row tbX12_listOf 218 rfl, rfl⟩
theorem dX12_listOf_413 : vm_at cX12_listOf 413 (.iload 9) 2 415 := ⟨vm_row tbX12_listOf 219 rfl, rfl⟩
theorem dX12_listOf_415 : vm_br cX12_listOf 415 (.ifCond .le 15) 3 418 (15) 430 := ⟨vm_row tbX12_listOf 220 rfl, rfl, rfl⟩
theorem dX12_listOf_418 : vm_at cX12_listOf 418 (.iload_n 2) 1 419 ∧ ((2 : Fin 4) : Nat) = 2 := ⟨⟨vm_row tbX12_listOf 221 rfl, rfl⟩, rfl⟩
theorem dX12_listOf_419 : vm_at cX12_listOf 419 (.aload_n 0) 1 420 ∧ ((0 : Fin 4) : Nat) = 0 := ⟨⟨vm_row tbX12_listOf 222 rfl, rfl⟩, rfl⟩
theorem dX12_listOf_420 : vm_at cX12_listOf 420 (.getfield 191) 3 423 := ⟨vm_row tbX12_listOf 223 rfl, rfl⟩
theorem dX12_listOf_423 : vm_br cX12_listOf 423 (.if_icmp .ge 7) 3 426 (7) 430 := ⟨vm_row tbX12_listOf 224 rfl, rfl, rfl⟩
theorem dX12_listOf_426 : vm_at cX12_listOf 426 (.iconst 1) 1 427 ∧ Int32.ofInt (1) = (1 : Int32) := ⟨⟨vm_row tbX12_listOf 225 rfl, rfl⟩, z_iconst_1⟩
theorem dX12_listOf_427 : vm_br cX12_listOf 427 (.goto 4) 3 430 (4) 431 := ⟨vm_row tbX12_listOf 226 rfl, rfl, rfl⟩
theorem dX12_listOf_430 : vm_at cX12_listOf 430 (.iconst 0) 1 431 ∧ Int32.ofInt (0) = (0 : Int32) := ⟨⟨vm_row tbX12_listOf 227 rfl, rfl⟩, z_iconst_0⟩
theorem dX12_listOf_431 : vm_at cX12_listOf 431 (.istore 5) 2 433 := ⟨vm_row tbX12_listOf 228 rfl, rfl⟩
theorem dX12_listOf_433 : vm_br cX12_listOf 433 (.goto (-374)) 3 436 (-374) 59 := ⟨vm_row tbX12_listOf 229 rfl, rfl, rfl⟩
theorem dX12_listOf_436 : vm_at cX12_listOf 436 (.aload_n 0) 1 437 ∧ ((0 : Fin 4) : Nat) = 0 := ⟨⟨vm_row tbX12_listOf 230 rfl, rfl⟩, rfl⟩
theorem dX12_listOf_437 : vm_at cX12_listOf 437 (.iload_n 1) 1 438 ∧ ((1 : Fin 4) : Nat) = 1 := ⟨⟨vm_row tbX12_listOf 231 rfl, rfl⟩, rfl⟩
theorem dX12_listOf_438 : vm_at cX12_listOf 438 (.invokevirtual 223) 3 441 := ⟨vm_row tbX12_listOf 232 rfl, rfl⟩
theorem dX12_listOf_441 : vm_at cX12_listOf 441 (.iload 4) 2 443 := ⟨vm_row tbX12_listOf 233 rfl, rfl⟩
theorem dX12_listOf_443 : vm_at cX12_listOf 443 (.ireturn) 1 444 := ⟨vm_row tbX12_listOf 234 rfl, rfl⟩
def tlX12_insert : List (Nat × Instr × Nat) := [(0, .iload_n 2, 1), (1, .istore 4, 2), (3, .iload 4, 2), (5, .iload_n 1, 1), (6, .if_icmp .le 25, 3), (9, .aload_n 0, 1), (10, .getfield 47, 3), (13, .iload 4, 2), (15, .aload_n 0, 1), (16, .getfield 47, 3), (19, .iload 4, 2), (21, .iconst 1, 1), (22, .isub, 1), (23, .iaload, 1), (24, .iastore, 1), (25, .iinc 4 (-1), 3), (28, .goto (-25), 3), (31, .aload_n 0, 1), (32, .getfield 47, 3), (35, .iload_n 1, 1), (36, .iload_n 3, 1), (37, .iastore, 1), (38, .return_, 1)]
theorem tbX12_insert : vm_chk cX12_insert tlX12_insert = true := by decide +kernel
theorem dX12_insert_0 : vm_at cX12_insert 0 (.iload_n 2) 1 1 ∧ ((2 : Fin 4) : Nat) = 2 := ⟨⟨vm_row tbX12_insert 0 rfl, rfl⟩, rfl⟩
theorem dX12_insert_1 : vm_at cX12_insert 1 (.istore 4) 2 3 := ⟨vm_row tbX12_insert 1 rfl, rfl⟩
theorem dX12_insert_3 : vm_at cX12_insert 3 (.iload 4) 2 5 := ⟨vm_row tbX12_insert 2 rfl, rfl⟩
theorem dX12_insert_5 : vm_at cX12_insert 5 (.iload_n 1) 1 6 ∧ ((1 : Fin 4) : Nat) = 1 := ⟨⟨vm_row tbX12_insert 3 rfl, rfl⟩, rfl⟩
theorem dX12_insert_6 : vm_br cX12_insert 6 (.if_icmp .le 25) 3 9 (25) 31 := ⟨vm_row tbX12_insert 4 rfl, rfl, rfl⟩
theorem dX12_insert_9 : vm_at cX12_insert 9 (.aload_n 0) 1 10 ∧ ((0 : Fin 4) : Nat) = 0 := ⟨⟨vm_row tbX12_insert 5 rfl, rfl⟩, rfl⟩
theorem dX12_insert_10 : vm_at cX12_insert 10 (.getfield 47) 3 13 := ⟨vm_row tbX12_insert 6 rfl, rfl⟩
theorem dX12_insert_13 : vm_at cX12_insert 13 (.iload 4) 2 15 := ⟨vm_row tbX12_insert 7 rfl, rfl⟩
theorem dX12_insert_15 : vm_at cX12_insert 15 (.aload_n 0) 1 16 ∧ ((0 : Fin 4) : Nat) = 0 := ⟨⟨vm_row tbX12_insert 8 rfl, rfl⟩, rfl⟩
theorem dX12_insert_16 : vm_at cX12_insert 16 (.getfield 47) 3 19 := ⟨vm_row tbX12_insert 9 rfl, rfl⟩
theorem dX12_insert_19 : vm_at cX12_insert 19 (.iload 4) 2 21 := ⟨vm_row tbX12_insert 10 rfl, rfl⟩
theorem dX12_insert_21 : vm_at cX12_insert 21 (.iconst 1) 1 22 ∧ Int32.ofInt (1) = (1 : Int32) := ⟨⟨vm_row tbX12_insert 11 rfl, rfl⟩, z_iconst_1⟩
theorem dX12_insert_22 : vm_at cX12_insert 22 (.isub) 1 23 := ⟨vm_row tbX12_insert 12 rfl, rfl⟩
theorem dX12_insert_23 : vm_at cX12_insert 23 (.iaload) 1 24 := ⟨vm_row tbX12_insert 13 rfl, rfl⟩
theorem dX12_insert_24 : vm_at cX12_insert 24 (.iastore) 1 25 := ⟨vm_row tbX12_insert 14 rfl, rfl⟩
theorem dX12_insert_25 : vm_at cX12_insert 25 (.iinc 4 (-1)) 3 28 ∧ Int32.ofInt (-1) = (-1 : Int32) := ⟨⟨vm_row tbX12_insert 15 rfl, rfl⟩, z_iconst_m1⟩
theorem dX12_insert_28 : vm_br cX12_insert 28 (.goto (-25)) 3 31 (-25) 3 := ⟨vm_row tbX12_insert 16 rfl, rfl, rfl⟩
theorem dX12_insert_31 : vm_at cX12_insert 31 (.aload_n 0) 1 32 ∧ ((0 : Fin 4) : Nat) = 0 := ⟨⟨vm_row tbX12_insert 17 rfl, rfl⟩, rfl⟩
theorem dX12_insert_32 : vm_at cX12_insert 32 (.getfield 47) 3 35 := ⟨vm_row tbX12_insert 18 rfl, rfl⟩
theorem dX12_insert_35 : vm_at cX12_insert 35 (.iload_n 1) 1 36 ∧ ((1 : Fin 4) : Nat) = 1 := ⟨⟨vm_row tbX12_insert 19 rfl, rfl⟩, rfl⟩
theorem dX12_insert_36 : vm_at cX12_insert 36 (.iload_n 3) 1 37 ∧ ((3 : Fin 4) : Nat) = 3 := ⟨⟨vm_row tbX12_insert 20 rfl, rfl⟩, rfl⟩
theorem dX12_insert_37 : vm_at cX12_insert 37 (.iastore) 1 38 := ⟨vm_row tbX12_insert 21 rfl, rfl⟩
theorem dX12_insert_38 : vm_at cX12_insert 38 (.return_) 1 39 := ⟨vm_row tbX12_insert 22 rfl, rfl⟩
def tlX12_list : List (Nat × Instr × Nat) := [(0, .aload_n 0, 1), (1, .getfield 191, 3), (4, .ifCond .ne 5, 3), (7, .iconst 0, 1), (8, .ireturn, 1), (9, .aload_n 0, 1), (10, .invokevirtual 269, 3), (13, .ireturn, 1)]
theorem tbX12_list : vm_chk cX12_list tlX12_list = true := by decide +kernel
theorem dX12_list_0 : vm_at cX12_list 0 (.aload_n 0) 1 1 ∧ ((0 : Fin 4) : Nat) = 0 := ⟨⟨vm_row tbX12_list 0 rfl, rfl⟩, rfl⟩
theorem dX12_list_1 : vm_at cX12_list 1 (.getfield 191) 3 4 := ⟨vm_row tbX12_list 1 rfl, rfl⟩
theorem dX12_list_4 : vm_br cX12_list 4 (.ifCond .ne 5) 3 7 (5) 9 := ⟨vm_row tbX12_list 2 rfl, rfl, rfl⟩
theorem dX12_list_7 : vm_at cX12_list 7 (.iconst 0) 1 8 ∧ Int32.ofInt (0) = (0 : Int32) := ⟨⟨vm_row tbX12_list 3 rfl, rfl⟩, z_iconst_0⟩
theorem dX12_list_8 : vm_at cX12_list 8 (.ireturn) 1 9 := ⟨vm_row tbX12_list 4 rfl, rfl⟩
theorem dX12_list_9 : vm_at cX12_list 9 (.aload_n 0) 1 10 ∧ ((0 : Fin 4) : Nat) = 0 := ⟨⟨vm_row tbX12_list 5 rfl, rfl⟩, rfl⟩
theorem dX12_list_10 : vm_at cX12_list 10 (.invokevirtual 269) 3 13 := ⟨vm_row tbX12_list 6 rfl, rfl⟩
theorem dX12_list_13 : vm_at cX12_list 13 (.ireturn) 1 14 := ⟨vm_row tbX12_list 7 rfl, rfl⟩
def tlX12_quick : List (Nat × Instr × Nat) := [(0, .iload_n 1, 1), (1, .iconst 0, 1), (2, .sipush 999, 3), (5, .invokestatic 68, 3), (8, .ifCond .eq 14, 3), (11, .iload_n 2, 1), (12, .iconst 0, 1), (13, .sipush 999, 3), (16, .invokestatic 68, 3), (19, .ifCond .ne 6, 3), (22, .ldc 72, 2), (24, .ireturn, 1), (25, .aload_n 0, 1), (26, .aload_n 0, 1), (27, .getfield 182, 3), (30, .invokevirtual 246, 3), (33, .iconst (-1), 1), (34, .istore_n 3, 1), (35, .iconst 0, 1), (36, .istore 4, 2), (38, .iload 4, 2), (40, .aload_n 0, 1), (41, .getfield 65, 3), (44, .if_icmp .ge 133, 3), (47, .iload 4, 2), (49, .iload_n 1, 1), (50, .if_icmp .ge 10, 3), (53, .iload_n 1, 1), (54, .iload 4, 2), (56, .isub, 1), (57, .goto 7, 3), (60, .iload 4, 2), (62, .iload_n 1, 1), (63, .isub, 1), (64, .istore 5, 2), (66, .iload_n 3, 1), (67, .iconst (-1), 1), (68, .if_icmp .ne 7, 3), (71, .iconst 0, 1), (72, .goto 17, 3), (75, .iload_n 3, 1), (76, .iload_n 1, 1), (77, .if_icmp .ge 9, 3), (80, .iload_n 1, 1), (81, .iload_n 3, 1), (82, .isub, 1), (83, .goto 6, 3), (86, .iload_n 3, 1), (87, .iload_n 1, 1), (88, .isub, 1), (89, .istore 6, 2), (91, .iload 5, 2), (93, .iload_n 2, 1), (94, .if_icmp .gt 77, 3), (97, .aload_n 0, 1), (98, .getfield 56, 3), (101, .iload 4, 2), (103, .iaload, 1), (104, .iconst (-1), 1), (105, .if_icmp .eq 66, 3), (108, .iload_n 3, 1), (109, .iconst (-1), 1), (110, .if_icmp .eq 42, 3), (113, .aload_n 0, 1), (114, .getfield 56, 3), (117, .iload 4, 2), (119, .iaload, 1), (120, .aload_n 0, 1), (121, .getfield 56, 3), (124, .iload_n 3, 1), (125, .iaload, 1), (126, .if_icmp .lt 26, 3), (129, .aload_n 0, 1), (130, .getfield 56, 3), (133, .iload 4, 2), (135, .iaload, 1), (136, .aload_n 0, 1), (137, .getfield 56, 3), (140, .iload_n 3, 1), (141, .iaload, 1), (142, .if_icmp .ne 14, 3), (145, .iload 5, 2), (147, .iload 6, 2), (149, .if_icmp .ge 7, 3), (152, .iconst 1, 1), (153, .goto 4, 3), (156, .iconst 0, 1), (157, .istore 7, 2), (159, .iload 7, 2), (161, .ifCond .eq 8, 3), (164, .iload 4, 2), (166, .goto 4, 3), (169, .iload_n 3, 1), (170, .istore_n 3, 1), (171, .iinc 4 1, 3), (174, .goto (-136), 3), (177, .iload_n 3, 1), (178, .ireturn, 1)]
theorem tbX12_quick : vm_chk cX12_quick tlX12_quick = true := by decide +kernel
theorem dX12_quick_0 : vm_at cX12_quick 0 (.iload_n 1) 1 1 ∧ ((1 : Fin 4) : Nat) = 1 := ⟨⟨vm_row tbX12_quick 0 rfl, rfl⟩, rfl⟩
theorem dX12_quick_1 : vm_at cX12_quick 1 (.iconst 0) 1 2 ∧ Int32.ofInt (0) = (0 : Int32) := ⟨⟨vm_row tbX12_quick 1 rfl, rfl⟩, z_iconst_0⟩
theorem dX12_quick_2 : vm_at cX12_quick 2 (.sipush 999) 3 5 ∧ (Int16.ofInt (999)).toInt32 = (999 : Int32) := ⟨⟨vm_row tbX12_quick 2 rfl, rfl⟩, z_sipush_999⟩
theorem dX12_quick_5 : vm_at cX12_quick 5 (.invokestatic 68) 3 8 := ⟨vm_row tbX12_quick 3 rfl, rfl⟩
theorem dX12_quick_8 : vm_br cX12_quick 8 (.ifCond .eq 14) 3 11 (14) 22 := ⟨vm_row tbX12_quick 4 rfl, rfl, rfl⟩
theorem dX12_quick_11 : vm_at cX12_quick 11 (.iload_n 2) 1 12 ∧ ((2 : Fin 4) : Nat) = 2 := ⟨⟨vm_row tbX12_quick 5 rfl, rfl⟩, rfl⟩
theorem dX12_quick_12 : vm_at cX12_quick 12 (.iconst 0) 1 13 ∧ Int32.ofInt (0) = (0 : Int32) := ⟨⟨vm_row tbX12_quick 6 rfl, rfl⟩, z_iconst_0⟩
theorem dX12_quick_13 : vm_at cX12_quick 13 (.sipush 999) 3 16 ∧ (Int16.ofInt (999)).toInt32 = (999 : Int32) := ⟨⟨vm_row tbX12_quick 7 rfl, rfl⟩, z_sipush_999⟩
theorem dX12_quick_16 : vm_at cX12_quick 16 (.invokestatic 68) 3 19 := ⟨vm_row tbX12_quick 8 rfl, rfl⟩
theorem dX12_quick_19 : vm_br cX12_quick 19 (.ifCond .ne 6) 3 22 (6) 25 := ⟨vm_row tbX12_quick 9 rfl, rfl, rfl⟩
theorem dX12_quick_22 : vm_at cX12_quick 22 (.ldc 72) 2 24 := ⟨vm_row tbX12_quick 10 rfl, rfl⟩
theorem dX12_quick_24 : vm_at cX12_quick 24 (.ireturn) 1 25 := ⟨vm_row tbX12_quick 11 rfl, rfl⟩
theorem dX12_quick_25 : vm_at cX12_quick 25 (.aload_n 0) 1 26 ∧ ((0 : Fin 4) : Nat) = 0 := ⟨⟨vm_row tbX12_quick 12 rfl, rfl⟩, rfl⟩
theorem dX12_quick_26 : vm_at cX12_quick 26 (.aload_n 0) 1 27 ∧ ((0 : Fin 4) : Nat) = 0 := ⟨⟨vm_row tbX12_quick 13 rfl, rfl⟩, rfl⟩
theorem dX12_quick_27 : vm_at cX12_quick 27 (.getfield 182) 3 30 := ⟨vm_row tbX12_quick 14 rfl, rfl⟩
theorem dX12_quick_30 : vm_at cX12_quick 30 (.invokevirtual 246) 3 33 := ⟨vm_row tbX12_quick 15 rfl, rfl⟩
theorem dX12_quick_33 : vm_at cX12_quick 33 (.iconst (-1)) 1 34 ∧ Int32.ofInt (-1) = (-1 : Int32) := ⟨⟨vm_row tbX12_quick 16 rfl, rfl⟩, z_iconst_m1⟩
theorem dX12_quick_34 : vm_at cX12_quick 34 (.istore_n 3) 1 35 ∧ ((3 : Fin 4) : Nat) = 3 := ⟨⟨vm_row tbX12_quick 17 rfl, rfl⟩, rfl⟩
theorem dX12_quick_35 : vm_at cX12_quick 35 (.iconst 0) 1 36 ∧ Int32.ofInt (0) = (0 : Int32) := ⟨⟨vm_row tbX12_quick 18 rfl, rfl⟩, z_iconst_0⟩
theorem dX12_quick_36 : vm_at cX12_quick 36 (.istore 4) 2 38 := ⟨vm_row tbX12_quick 19 rfl, rfl⟩
theorem dX12_quick_38 : vm_at cX12_quick 38 (.iload 4) 2 40 := ⟨vm_row tbX12_quick 20 rfl, rfl⟩
theorem dX12_quick_40 : vm_at cX12_quick 40 (.aload_n 0) 1 41 ∧ ((0 : Fin 4) : Nat) = 0 := ⟨⟨vm_row tbX12_quick 21 rfl, rfl⟩, rfl⟩
theorem dX12_quick_41 : vm_at cX12_quick 41 (.getfield 65) 3 44 := ⟨vm_row tbX12_quick 22 rfl, rfl⟩
theorem dX12_quick_44 : vm_br cX12_quick 44 (.if_icmp .ge 133) 3 47 (133) 177 := ⟨vm_row tbX12_quick 23 rfl, rfl, rfl⟩
theorem dX12_quick_47 : vm_at cX12_quick 47 (.iload 4) 2 49 := ⟨vm_row tbX12_quick 24 rfl, rfl⟩
theorem dX12_quick_49 : vm_at cX12_quick 49 (.iload_n 1) 1 50 ∧ ((1 : Fin 4) : Nat) = 1 := ⟨⟨vm_row tbX12_quick 25 rfl, rfl⟩, rfl⟩
theorem dX12_quick_50 : vm_br cX12_quick 50 (.if_icmp .ge 10) 3 53 (10) 60 := ⟨vm_row tbX12_quick 26 rfl, rfl, rfl⟩
theorem dX12_quick_53 : vm_at cX12_quick 53 (.iload_n 1) 1 54 ∧ ((1 : Fin 4) : Nat) = 1 := ⟨⟨vm_row tbX12_quick 27 rfl, rfl⟩, rfl⟩
theorem dX12_quick_54 : vm_at cX12_quick 54 (.iload 4) 2 56 := ⟨vm_row tbX12_quick 28 rfl, rfl⟩
theorem dX12_quick_56 : vm_at cX12_quick 56 (.isub) 1 57 := ⟨vm_row tbX12_quick 29 rfl, rfl⟩
theorem dX12_quick_57 : vm_br cX12_quick 57 (.goto 7) 3 60 (7) 64 := ⟨vm_row tbX12_quick 30 rfl, rfl, rfl⟩
theorem dX12_quick_60 : vm_at cX12_quick 60 (.iload 4) 2 62 := ⟨vm_row tbX12_quick 31 rfl, rfl⟩
theorem dX12_quick_62 : vm_at cX12_quick 62 (.iload_n 1) 1 63 ∧ ((1 : Fin 4) : Nat) = 1 := ⟨⟨vm_row tbX12_quick 32 rfl, rfl⟩, rfl⟩
theorem dX12_quick_63 : vm_at cX12_quick 63 (.isub) 1 64 := ⟨vm_row tbX12_quick 33 rfl, rfl⟩
theorem dX12_quick_64 : vm_at cX12_quick 64 (.istore 5) 2 66 := ⟨vm_row tbX12_quick 34 rfl, rfl⟩
theorem dX12_quick_66 : vm_at cX12_quick 66 (.iload_n 3) 1 67 ∧ ((3 : Fin 4) : Nat) = 3 := ⟨⟨vm_row tbX12_quick 35 rfl, rfl⟩, rfl⟩
theorem dX12_quick_67 : vm_at cX12_quick 67 (.iconst (-1)) 1 68 ∧ Int32.ofInt (-1) = (-1 : Int32) := ⟨⟨vm_row tbX12_quick 36 rfl, rfl⟩, z_iconst_m1⟩
theorem dX12_quick_68 : vm_br cX12_quick 68 (.if_icmp .ne 7) 3 71 (7) 75 := ⟨vm_row tbX12_quick 37 rfl, rfl, rfl⟩
theorem dX12_quick_71 : vm_at cX12_quick 71 (.iconst 0) 1 72 ∧ Int32.ofInt (0) = (0 : Int32) := ⟨⟨vm_row tbX12_quick 38 rfl, rfl⟩, z_iconst_0⟩
theorem dX12_quick_72 : vm_br cX12_quick 72 (.goto 17) 3 75 (17) 89 := ⟨vm_row tbX12_quick 39 rfl, rfl, rfl⟩
theorem dX12_quick_75 : vm_at cX12_quick 75 (.iload_n 3) 1 76 ∧ ((3 : Fin 4) : Nat) = 3 := ⟨⟨vm_row tbX12_quick 40 rfl, rfl⟩, rfl⟩
theorem dX12_quick_76 : vm_at cX12_quick 76 (.iload_n 1) 1 77 ∧ ((1 : Fin 4) : Nat) = 1 := ⟨⟨vm_row tbX12_quick 41 rfl, rfl⟩, rfl⟩
theorem dX12_quick_77 : vm_br cX12_quick 77 (.if_icmp .ge 9) 3 80 (9) 86 := ⟨vm_row tbX12_quick 42 rfl, rfl, rfl⟩
theorem dX12_quick_80 : vm_at cX12_quick 80 (.iload_n 1) 1 81 ∧ ((1 : Fin 4) : Nat) = 1 := ⟨⟨vm_row tbX12_quick 43 rfl, rfl⟩, rfl⟩
theorem dX12_quick_81 : vm_at cX12_quick 81 (.iload_n 3) 1 82 ∧ ((3 : Fin 4) : Nat) = 3 := ⟨⟨vm_row tbX12_quick 44 rfl, rfl⟩, rfl⟩
theorem dX12_quick_82 : vm_at cX12_quick 82 (.isub) 1 83 := ⟨vm_row tbX12_quick 45 rfl, rfl⟩
theorem dX12_quick_83 : vm_br cX12_quick 83 (.goto 6) 3 86 (6) 89 := ⟨vm_row tbX12_quick 46 rfl, rfl, rfl⟩
theorem dX12_quick_86 : vm_at cX12_quick 86 (.iload_n 3) 1 87 ∧ ((3 : Fin 4) : Nat) = 3 := ⟨⟨vm_row tbX12_quick 47 rfl, rfl⟩, rfl⟩
theorem dX12_quick_87 : vm_at cX12_quick 87 (.iload_n 1) 1 88 ∧ ((1 : Fin 4) : Nat) = 1 := ⟨⟨vm_row tbX12_quick 48 rfl, rfl⟩, rfl⟩
theorem dX12_quick_88 : vm_at cX12_quick 88 (.isub) 1 89 := ⟨vm_row tbX12_quick 49 rfl, rfl⟩
theorem dX12_quick_89 : vm_at cX12_quick 89 (.istore 6) 2 91 := ⟨vm_row tbX12_quick 50 rfl, rfl⟩
theorem dX12_quick_91 : vm_at cX12_quick 91 (.iload 5) 2 93 := ⟨vm_row tbX12_quick 51 rfl, rfl⟩
theorem dX12_quick_93 : vm_at cX12_quick 93 (.iload_n 2) 1 94 ∧ ((2 : Fin 4) : Nat) = 2 := ⟨⟨vm_row tbX12_quick 52 rfl, rfl⟩, rfl⟩
theorem dX12_quick_94 : vm_br cX12_quick 94 (.if_icmp .gt 77) 3 97 (77) 171 := ⟨vm_row tbX12_quick 53 rfl, rfl, rfl⟩
theorem dX12_quick_97 : vm_at cX12_quick 97 (.aload_n 0) 1 98 ∧ ((0 : Fin 4) : Nat) = 0 := ⟨⟨vm_row tbX12_quick 54 rfl, rfl⟩, rfl⟩
theorem dX12_quick_98 : vm_at cX12_quick 98 (.getfield 56) 3 101 := ⟨vm_row tbX12_quick 55 rfl, rfl⟩
theorem dX12_quick_101 : vm_at cX12_quick 101 (.iload 4) 2 103 := ⟨vm_row tbX12_quick 56 rfl, rfl⟩
theorem dX12_quick_103 : vm_at cX12_quick 103 (.iaload) 1 104 := ⟨vm_row tbX12_quick 57 rfl, rfl⟩
theorem dX12_quick_104 : vm_at cX12_quick 104 (.iconst (-1)) 1 105 ∧ Int32.ofInt (-1) = (-1 : Int32) := ⟨⟨vm_row tbX12_quick 58 rfl, rfl⟩, z_iconst_m1⟩
theorem dX12_quick_105 : vm_br cX12_quick 105 (.if_icmp .eq 66) 3 108 (66) 171 := ⟨vm_row tbX12_quick 59 rfl, rfl, rfl⟩
theorem dX12_quick_108 : vm_at cX12_quick 108 (.iload_n 3) 1 109 ∧ ((3 : Fin 4) : Nat) = 3 := ⟨⟨vm_row tbX12_quick 60 rfl, rfl⟩, rfl⟩
theorem dX12_quick_109 : vm_at cX12_quick 109 (.iconst (-1)) 1 110 ∧ Int32.ofInt (-1) = (-1 : Int32) := ⟨⟨vm_row tbX12_quick 61 rfl, rfl⟩, z_iconst_m1⟩
theorem dX12_quick_110 : vm_br cX12_quick 110 (.if_icmp .eq 42) 3 113 (42) 152 := ⟨vm_row tbX12_quick 62 rfl, rfl, rfl⟩
theorem dX12_quick_113 : vm_at cX12_quick 113 (.aload_n 0) 1 114 ∧ ((0 : Fin 4) : Nat) = 0 := ⟨⟨vm_row tbX12_quick 63 rfl, rfl⟩, rfl⟩
theorem dX12_quick_114 : vm_at cX12_quick 114 (.getfield 56) 3 117 := ⟨vm_row tbX12_quick 64 rfl, rfl⟩
theorem dX12_quick_117 : vm_at cX12_quick 117 (.iload 4) 2 119 := ⟨vm_row tbX12_quick 65 rfl, rfl⟩
theorem dX12_quick_119 : vm_at cX12_quick 119 (.iaload) 1 120 := ⟨vm_row tbX12_quick 66 rfl, rfl⟩
theorem dX12_quick_120 : vm_at cX12_quick 120 (.aload_n 0) 1 121 ∧ ((0 : Fin 4) : Nat) = 0 := ⟨⟨vm_row tbX12_quick 67 rfl, rfl⟩, rfl⟩
theorem dX12_quick_121 : vm_at cX12_quick 121 (.getfield 56) 3 124 := ⟨vm_row tbX12_quick 68 rfl, rfl⟩
theorem dX12_quick_124 : vm_at cX12_quick 124 (.iload_n 3) 1 125 ∧ ((3 : Fin 4) : Nat) = 3 := ⟨⟨vm_row tbX12_quick 69 rfl, rfl⟩, rfl⟩
theorem dX12_quick_125 : vm_at cX12_quick 125 (.iaload) 1 126 := ⟨vm_row tbX12_quick 70 rfl, rfl⟩
theorem dX12_quick_126 : vm_br cX12_quick 126 (.if_icmp .lt 26) 3 129 (26) 152 := ⟨vm_row tbX12_quick 71 rfl, rfl, rfl⟩
theorem dX12_quick_129 : vm_at cX12_quick 129 (.aload_n 0) 1 130 ∧ ((0 : Fin 4) : Nat) = 0 := ⟨⟨vm_row tbX12_quick 72 rfl, rfl⟩, rfl⟩
theorem dX12_quick_130 : vm_at cX12_quick 130 (.getfield 56) 3 133 := ⟨vm_row tbX12_quick 73 rfl, rfl⟩
theorem dX12_quick_133 : vm_at cX12_quick 133 (.iload 4) 2 135 := ⟨vm_row tbX12_quick 74 rfl, rfl⟩
theorem dX12_quick_135 : vm_at cX12_quick 135 (.iaload) 1 136 := ⟨vm_row tbX12_quick 75 rfl, rfl⟩
theorem dX12_quick_136 : vm_at cX12_quick 136 (.aload_n 0) 1 137 ∧ ((0 : Fin 4) : Nat) = 0 := ⟨⟨vm_row tbX12_quick 76 rfl, rfl⟩, rfl⟩
theorem dX12_quick_137 : vm_at cX12_quick 137 (.getfield 56) 3 140 := ⟨vm_row tbX12_quick 77 rfl, rfl⟩
theorem dX12_quick_140 : vm_at cX12_quick 140 (.iload_n 3) 1 141 ∧ ((3 : Fin 4) : Nat) = 3 := ⟨⟨vm_row tbX12_quick 78 rfl, rfl⟩, rfl⟩
theorem dX12_quick_141 : vm_at cX12_quick 141 (.iaload) 1 142 := ⟨vm_row tbX12_quick 79 rfl, rfl⟩
theorem dX12_quick_142 : vm_br cX12_quick 142 (.if_icmp .ne 14) 3 145 (14) 156 := ⟨vm_row tbX12_quick 80 rfl, rfl, rfl⟩
theorem dX12_quick_145 : vm_at cX12_quick 145 (.iload 5) 2 147 := ⟨vm_row tbX12_quick 81 rfl, rfl⟩
theorem dX12_quick_147 : vm_at cX12_quick 147 (.iload 6) 2 149 := ⟨vm_row tbX12_quick 82 rfl, rfl⟩
theorem dX12_quick_149 : vm_br cX12_quick 149 (.if_icmp .ge 7) 3 152 (7) 156 := ⟨vm_row tbX12_quick 83 rfl, rfl, rfl⟩
theorem dX12_quick_152 : vm_at cX12_quick 152 (.iconst 1) 1 153 ∧ Int32.ofInt (1) = (1 : Int32) := ⟨⟨vm_row tbX12_quick 84 rfl, rfl⟩, z_iconst_1⟩
theorem dX12_quick_153 : vm_br cX12_quick 153 (.goto 4) 3 156 (4) 157 := ⟨vm_row tbX12_quick 85 rfl, rfl, rfl⟩
theorem dX12_quick_156 : vm_at cX12_quick 156 (.iconst 0) 1 157 ∧ Int32.ofInt (0) = (0 : Int32) := ⟨⟨vm_row tbX12_quick 86 rfl, rfl⟩, z_iconst_0⟩
theorem dX12_quick_157 : vm_at cX12_quick 157 (.istore 7) 2 159 := ⟨vm_row tbX12_quick 87 rfl, rfl⟩
theorem dX12_quick_159 : vm_at cX12_quick 159 (.iload 7) 2 161 := ⟨vm_row tbX12_quick 88 rfl, rfl⟩
theorem dX12_quick_161 : vm_br cX12_quick 161 (.ifCond .eq 8) 3 164 (8) 169 := ⟨vm_row tbX12_quick 89 rfl, rfl, rfl⟩
theorem dX12_quick_164 : vm_at cX12_quick 164 (.iload 4) 2 166 := ⟨vm_row tbX12_quick 90 rfl, rfl⟩
theorem dX12_quick_166 : vm_br cX12_quick 166 (.goto 4) 3 169 (4) 170 := ⟨vm_row tbX12_quick 91 rfl, rfl, rfl⟩
theorem dX12_quick_169 : vm_at cX12_quick 169 (.iload_n 3) 1 170 ∧ ((3 : Fin 4) : Nat) = 3 := ⟨⟨vm_row tbX12_quick 92 rfl, rfl⟩, rfl⟩
theorem dX12_quick_170 : vm_at cX12_quick 170 (.istore_n 3) 1 171 ∧ ((3 : Fin 4) : Nat) = 3 := ⟨⟨vm_row tbX12_quick 93 rfl, rfl⟩, rfl⟩
theorem dX12_quick_171 : vm_at cX12_quick 171 (.iinc 4 1) 3 174 ∧ Int32.ofInt (1) = (1 : Int32) := ⟨⟨vm_row tbX12_quick 94 rfl, rfl⟩, z_iconst_1⟩
theorem dX12_quick_174 : vm_br cX12_quick 174 (.goto (-136)) 3 177 (-136) 38 := ⟨vm_row tbX12_quick 95 rfl, rfl, rfl⟩
theorem dX12_quick_177 : vm_at cX12_quick 177 (.iload_n 3) 1 178 ∧ ((3 : Fin 4) : Nat) = 3 := ⟨⟨vm_row tbX12_quick 96 rfl, rfl⟩, rfl⟩
theorem dX12_quick_178 : vm_at cX12_quick 178 (.ireturn) 1 179 := ⟨vm_row tbX12_quick 97 rfl, rfl⟩
def tlX12_rowsTo : List (Nat × Instr × Nat) := [(0, .aload_n 0, 1), (1, .invokevirtual 229, 3), (4, .istore 4, 2), (6, .iconst 0, 1), (7, .istore 5, 2), (9, .iload 5, 2), (11, .aload_n 0, 1), (12, .invokevirtual 233, 3), (15, .if_icmp .ge 17, 3), (18, .aload_n 0, 1), (19, .getfield 44, 3), (22, .iload 5, 2), (24, .iconst 0, 1), (25, .iastore, 1), (26, .iinc 5 1, 3), (29, .goto (-20), 3), (32, .aload_n 0, 1), (33, .getfield 44, 3), (36, .iload 4, 2), (38, .iconst 1, 1), (39, .iastore, 1), (40, .iconst 0, 1), (41, .istore 5, 2), (43, .iload 5, 2), (45, .iload_n 1, 1), (46, .if_icmp .ge 146, 3), (49, .iconst 0, 1), (50, .istore 6, 2), (52, .iload 6, 2), (54, .aload_n 0, 1), (55, .invokevirtual 233, 3), (58, .if_icmp .ge 17, 3), (61, .aload_n 0, 1), (62, .getfield 47, 3), (65, .iload 6, 2), (67, .iconst 0, 1), (68, .iastore, 1), (69, .iinc 6 1, 3), (72, .goto (-20), 3), (75, .iconst 0, 1), (76, .istore 6, 2), (78, .iload 6, 2), (80, .aload_n 0, 1), (81, .invokevirtual 233, 3), (84, .if_icmp .ge 70, 3), (87, .iconst 0, 1), (88, .istore 7, 2), (90, .iload 7, 2), (92, .aload_n 0, 1), (93, .getfield 182, 3), (96, .if_icmp .ge 52, 3), (99, .aload_n 0, 1), (100, .getfield 44, 3), (103, .iload 6, 2), (105, .iaload, 1), (106, .ifCond .le 42, 3), (109, .aload_n 0, 1), (110, .getfield 47, 3), (113, .aload_n 0, 1), (114, .iload 6, 2), (116, .iload 7, 2), (118, .invokevirtual 239, 3), (121, .dup2, 1), (122, .iaload, 1), (123, .iload 7, 2), (125, .iload_n 3, 1), (126, .if_icmp .ne 7, 3), (129, .iconst 0, 1), (130, .goto 10, 3), (133, .aload_n 0, 1), (134, .getfield 44, 3), (137, .iload 6, 2), (139, .iaload, 1), (140, .iadd, 1), (141, .iastore, 1), (142, .iinc 7 1, 3), (145, .goto (-55), 3), (148, .iinc 6 1, 3), (151, .goto (-73), 3), (154, .iconst 0, 1), (155, .istore 6, 2), (157, .iload 6, 2), (159, .aload_n 0, 1), (160, .invokevirtual 233, 3), (163, .if_icmp .ge 23, 3), (166, .aload_n 0, 1), (167, .getfield 44, 3), (170, .iload 6, 2), (172, .aload_n 0, 1), (173, .getfield 47, 3), (176, .iload 6, 2), (178, .iaload, 1), (179, .iastore, 1), (180, .iinc 6 1, 3), (183, .goto (-26), 3), (186, .iinc 5 1, 3), (189, .goto (-146), 3), (192, .iconst 0, 1), (193, .istore 5, 2), (195, .iconst 0, 1), (196, .istore 6, 2), (198, .iload 6, 2), (200, .aload_n 0, 1), (201, .invokevirtual 233, 3), (204, .if_icmp .ge 35, 3), (207, .iload 5, 2), (209, .aload_n 0, 1), (210, .iload 6, 2), (212, .invokevirtual 236, 3), (215, .iload_n 2, 1), (216, .if_icmp .ne 13, 3), (219, .aload_n 0, 1), (220, .getfield 44, 3), (223, .iload 6, 2), (225, .iaload, 1), (226, .goto 4, 3), (229, .iconst 0, 1), (230, .iadd, 1), (231, .istore 5, 2), (233, .iinc 6 1, 3), (236, .goto (-38), 3), (239, .aload_n 0, 1), (240, .iload 4, 2), (242, .invokevirtual 223, 3), (245, .iload 5, 2), (247, .ireturn, 1)]
theorem tbX12_rowsTo : vm_chk cX12_rowsTo tlX12_rowsTo = true := by decide +kernel
theorem dX12_rowsTo_0 : vm_at cX12_rowsTo 0 (.aload_n 0) 1 1 ∧ ((0 : Fin 4) : Nat) = 0 := ⟨⟨vm_row tbX12_rowsTo 0 rfl, rfl⟩, rfl⟩
theorem dX12_rowsTo_1 : vm_at cX12_rowsTo 1 (.invokevirtual 229) 3 4 := ⟨vm_row tbX12_rowsTo 1 rfl, rfl⟩
theorem dX12_rowsTo_4 : vm_at cX12_rowsTo 4 (.istore 4) 2 6 := ⟨vm_row tbX12_rowsTo 2 rfl, rfl⟩
theorem dX12_rowsTo_6 : vm_at cX12_rowsTo 6 (.iconst 0) 1 7 ∧ Int32.ofInt (0) = (0 : Int32) := ⟨⟨vm_row tbX12_rowsTo 3 rfl, rfl⟩, z_iconst_0⟩
theorem dX12_rowsTo_7 : vm_at cX12_rowsTo 7 (.istore 5) 2 9 := ⟨vm_row tbX12_rowsTo 4 rfl, rfl⟩
theorem dX12_rowsTo_9 : vm_at cX12_rowsTo 9 (.iload 5) 2 11 := ⟨vm_row tbX12_rowsTo 5 rfl, rfl⟩
theorem dX12_rowsTo_11 : vm_at cX12_rowsTo 11 (.aload_n 0) 1 12 ∧ ((0 : Fin 4) : Nat) = 0 := ⟨⟨vm_row tbX12_rowsTo 6 rfl, rfl⟩, rfl⟩
theorem dX12_rowsTo_12 : vm_at cX12_rowsTo 12 (.invokevirtual 233) 3 15 := ⟨vm_row tbX12_rowsTo 7 rfl, rfl⟩
theorem dX12_rowsTo_15 : vm_br cX12_rowsTo 15 (.if_icmp .ge 17) 3 18 (17) 32 := ⟨vm_row tbX12_rowsTo 8 rfl, rfl, rfl⟩
theorem dX12_rowsTo_18 : vm_at cX12_rowsTo 18 (.aload_n 0) 1 19 ∧ ((0 : Fin 4) : Nat) = 0 := ⟨⟨vm_row tbX12_rowsTo 9 rfl, rfl⟩, rfl⟩
theorem dX12_rowsTo_19 : vm_at cX12_rowsTo 19 (.getfield 44) 3 22 := ⟨vm_row tbX12_rowsTo 10 rfl, rfl⟩
theorem dX12_rowsTo_22 : vm_at cX12_rowsTo 22 (.iload 5) 2 24 := ⟨vm_row tbX12_rowsTo 11 rfl, rfl⟩
theorem dX12_rowsTo_24 : vm_at cX12_rowsTo 24 (.iconst 0) 1 25 ∧ Int32.ofInt (0) = (0 : Int32) := ⟨⟨vm_row tbX12_rowsTo 12 rfl, rfl⟩, z_iconst_0⟩
theorem dX12_rowsTo_25 : vm_at cX12_rowsTo 25 (.iastore) 1 26 := ⟨vm_row tbX12_rowsTo 13 rfl, rfl⟩
theorem dX12_rowsTo_26 : vm_at cX12_rowsTo 26 (.iinc 5 1) 3 29 ∧ Int32.ofInt (1) = (1 : Int32) := ⟨⟨vm_row tbX12_rowsTo 14 rfl, rfl⟩, z_iconst_1⟩
theorem dX12_rowsTo_29 : vm_br cX12_rowsTo 29 (.goto (-20)) 3 32 (-20) 9 := ⟨vm_row tbX12_rowsTo 15 rfl, rfl, rfl⟩
theorem dX12_rowsTo_32 : vm_at cX12_rowsTo 32 (.aload_n 0) 1 33 ∧ ((0 : Fin 4) : Nat) = 0 := ⟨⟨vm_row tbX12_rowsTo 16 rfl, rfl⟩, rfl⟩
theorem dX12_rowsTo_33 : vm_at cX12_rowsTo 33 (.getfield 44) 3 36 := ⟨vm_row tbX12_rowsTo 17 rfl, rfl⟩
theorem dX12_rowsTo_36 : vm_at cX12_rowsTo 36 (.iload 4) 2 38 := ⟨vm_row tbX12_rowsTo 18 rfl, rfl⟩
theorem dX12_rowsTo_38 : vm_at cX12_rowsTo 38 (.iconst 1) 1 39 ∧ Int32.ofInt (1) = (1 : Int32) := ⟨⟨vm_row tbX12_rowsTo 19 rfl, rfl⟩, z_iconst_1⟩
theorem dX12_rowsTo_39 : vm_at cX12_rowsTo 39 (.iastore) 1 40 := ⟨vm_row tbX12_rowsTo 20 rfl, rfl⟩
theorem dX12_rowsTo_40 : vm_at cX12_rowsTo 40 (.iconst 0) 1 41 ∧ Int32.ofInt (0) = (0 : Int32) := ⟨⟨vm_row tbX12_rowsTo 21 rfl, rfl⟩, z_iconst_0⟩
theorem dX12_rowsTo_41 : vm_at cX12_rowsTo 41 (.istore 5) 2 43 := ⟨vm_row tbX12_rowsTo 22 rfl, rfl⟩
theorem dX12_rowsTo_43 : vm_at cX12_rowsTo 43 (.iload 5) 2 45 := ⟨vm_row tbX12_rowsTo 23 rfl, rfl⟩
theorem dX12_rowsTo_45 : vm_at cX12_rowsTo 45 (.iload_n 1) 1 46 ∧ ((1 : Fin 4) : Nat) = 1 := ⟨⟨vm_row tbX12_rowsTo 24 rfl, rfl⟩, rfl⟩
theorem dX12_rowsTo_46 : vm_br cX12_rowsTo 46 (.if_icmp .ge 146) 3 49 (146) 192 := ⟨vm_row tbX12_rowsTo 25 rfl, rfl, rfl⟩
theorem dX12_rowsTo_49 : vm_at cX12_rowsTo 49 (.iconst 0) 1 50 ∧ Int32.ofInt (0) = (0 : Int32) := ⟨⟨vm_row tbX12_rowsTo 26 rfl, rfl⟩, z_iconst_0⟩
theorem dX12_rowsTo_50 : vm_at cX12_rowsTo 50 (.istore 6) 2 52 := ⟨vm_row tbX12_rowsTo 27 rfl, rfl⟩
theorem dX12_rowsTo_52 : vm_at cX12_rowsTo 52 (.iload 6) 2 54 := ⟨vm_row tbX12_rowsTo 28 rfl, rfl⟩
theorem dX12_rowsTo_54 : vm_at cX12_rowsTo 54 (.aload_n 0) 1 55 ∧ ((0 : Fin 4) : Nat) = 0 := ⟨⟨vm_row tbX12_rowsTo 29 rfl, rfl⟩, rfl⟩
theorem dX12_rowsTo_55 : vm_at cX12_rowsTo 55 (.invokevirtual 233) 3 58 := ⟨vm_row tbX12_rowsTo 30 rfl, rfl⟩
theorem dX12_rowsTo_58 : vm_br cX12_rowsTo 58 (.if_icmp .ge 17) 3 61 (17) 75 := ⟨vm_row tbX12_rowsTo 31 rfl, rfl, rfl⟩
theorem dX12_rowsTo_61 : vm_at cX12_rowsTo 61 (.aload_n 0) 1 62 ∧ ((0 : Fin 4) : Nat) = 0 := ⟨⟨vm_row tbX12_rowsTo 32 rfl, rfl⟩, rfl⟩
theorem dX12_rowsTo_62 : vm_at cX12_rowsTo 62 (.getfield 47) 3 65 := ⟨vm_row tbX12_rowsTo 33 rfl, rfl⟩
theorem dX12_rowsTo_65 : vm_at cX12_rowsTo 65 (.iload 6) 2 67 := ⟨vm_row tbX12_rowsTo 34 rfl, rfl⟩
theorem dX12_rowsTo_67 : vm_at cX12_rowsTo 67 (.iconst 0) 1 68 ∧ Int32.ofInt (0) = (0 : Int32) := ⟨⟨vm_row tbX12_rowsTo 35 rfl, rfl⟩, z_iconst_0⟩
theorem dX12_rowsTo_68 : vm_at cX12_rowsTo 68 (.iastore) 1 69 := ⟨vm_row tbX12_rowsTo 36 rfl, rfl⟩
theorem dX12_rowsTo_69 : vm_at cX12_rowsTo 69 (.iinc 6 1) 3 72 ∧ Int32.ofInt (1) = (1 : Int32) := ⟨⟨vm_row tbX12_rowsTo 37 rfl, rfl⟩, z_iconst_1⟩
theorem dX12_rowsTo_72 : vm_br cX12_rowsTo 72 (.goto (-20)) 3 75 (-20) 52 := ⟨vm_row tbX12_rowsTo 38 rfl, rfl, rfl⟩
theorem dX12_rowsTo_75 : vm_at cX12_rowsTo 75 (.iconst 0) 1 76 ∧ Int32.ofInt (0) = (0 : Int32) := ⟨⟨vm_row tbX12_rowsTo 39 rfl, rfl⟩, z_iconst_0⟩
theorem dX12_rowsTo_76 : vm_at cX12_rowsTo 76 (.istore 6) 2 78 := ⟨vm_row tbX12_rowsTo 40 rfl, rfl⟩
theorem dX12_rowsTo_78 : vm_at cX12_rowsTo 78 (.iload 6) 2 80 := ⟨vm_row tbX12_rowsTo 41 rfl, rfl⟩
theorem dX12_rowsTo_80 : vm_at cX12_rowsTo 80 (.aload_n 0) 1 81 ∧ ((0 : Fin 4) : Nat) = 0 := ⟨⟨vm_row tbX12_rowsTo 42 rfl, rfl⟩, rfl⟩
theorem dX12_rowsTo_81 : vm_at cX12_rowsTo 81 (.invokevirtual 233) 3 84 := ⟨vm_row tbX12_rowsTo 43 rfl, rfl⟩
theorem dX12_rowsTo_84 : vm_br cX12_rowsTo 84 (.if_icmp .ge 70) 3 87 (70) 154 := ⟨vm_row tbX12_rowsTo 44 rfl, rfl, rfl⟩
theorem dX12_rowsTo_87 : vm_at cX12_rowsTo 87 (.iconst 0) 1 88 ∧ Int32.ofInt (0) = (0 : Int32) := ⟨⟨vm_row tbX12_rowsTo 45 rfl, rfl⟩, z_iconst_0⟩
theorem dX12_rowsTo_88 : vm_at cX12_rowsTo 88 (.istore 7) 2 90 := ⟨vm_row tbX12_rowsTo 46 rfl, rfl⟩
theorem dX12_rowsTo_90 : vm_at cX12_rowsTo 90 (.iload 7) 2 92 := ⟨vm_row tbX12_rowsTo 47 rfl, rfl⟩
theorem dX12_rowsTo_92 : vm_at cX12_rowsTo 92 (.aload_n 0) 1 93 ∧ ((0 : Fin 4) : Nat) = 0 := ⟨⟨vm_row tbX12_rowsTo 48 rfl, rfl⟩, rfl⟩
theorem dX12_rowsTo_93 : vm_at cX12_rowsTo 93 (.getfield 182) 3 96 := ⟨vm_row tbX12_rowsTo 49 rfl, rfl⟩
theorem dX12_rowsTo_96 : vm_br cX12_rowsTo 96 (.if_icmp .ge 52) 3 99 (52) 148 := ⟨vm_row tbX12_rowsTo 50 rfl, rfl, rfl⟩
theorem dX12_rowsTo_99 : vm_at cX12_rowsTo 99 (.aload_n 0) 1 100 ∧ ((0 : Fin 4) : Nat) = 0 := ⟨⟨vm_row tbX12_rowsTo 51 rfl, rfl⟩, rfl⟩
theorem dX12_rowsTo_100 : vm_at cX12_rowsTo 100 (.getfield 44) 3 103 := ⟨vm_row tbX12_rowsTo 52 rfl, rfl⟩
theorem dX12_rowsTo_103 : vm_at cX12_rowsTo 103 (.iload 6) 2 105 := ⟨vm_row tbX12_rowsTo 53 rfl, rfl⟩
theorem dX12_rowsTo_105 : vm_at cX12_rowsTo 105 (.iaload) 1 106 := ⟨vm_row tbX12_rowsTo 54 rfl, rfl⟩
theorem dX12_rowsTo_106 : vm_br cX12_rowsTo 106 (.ifCond .le 42) 3 109 (42) 148 := ⟨vm_row tbX12_rowsTo 55 rfl, rfl, rfl⟩
theorem dX12_rowsTo_109 : vm_at cX12_rowsTo 109 (.aload_n 0) 1 110 ∧ ((0 : Fin 4) : Nat) = 0 := ⟨⟨vm_row tbX12_rowsTo 56 rfl, rfl⟩, rfl⟩
theorem dX12_rowsTo_110 : vm_at cX12_rowsTo 110 (.getfield 47) 3 113 := ⟨vm_row tbX12_rowsTo 57 rfl, rfl⟩
theorem dX12_rowsTo_113 : vm_at cX12_rowsTo 113 (.aload_n 0) 1 114 ∧ ((0 : Fin 4) : Nat) = 0 := ⟨⟨vm_row tbX12_rowsTo 58 rfl, rfl⟩, rfl⟩
theorem dX12_rowsTo_114 : vm_at cX12_rowsTo 114 (.iload 6) 2 116 := ⟨vm_row tbX12_rowsTo 59 rfl, rfl⟩
theorem dX12_rowsTo_116 : vm_at cX12_rowsTo 116 (.iload 7) 2 118 := ⟨vm_row tbX12_rowsTo 60 rfl, rfl⟩
theorem dX12_rowsTo_118 : vm_at cX12_rowsTo 118 (.invokevirtual 239) 3 121 := ⟨vm_row tbX12_rowsTo 61 rfl, rfl⟩
theorem dX12_rowsTo_121 : vm_at cX12_rowsTo 121 (.dup2) 1 122 := ⟨vm_row tbX12_rowsTo 62 rfl, rfl⟩
theorem dX12_rowsTo_122 : vm_at cX12_rowsTo 122 (.iaload) 1 123 := ⟨vm_row tbX12_rowsTo 63 rfl, rfl⟩
theorem dX12_rowsTo_123 : vm_at cX12_rowsTo 123 (.iload 7) 2 125 := ⟨vm_row tbX12_rowsTo 64 rfl, rfl⟩
theorem dX12_rowsTo_125 : vm_at cX12_rowsTo 125 (.iload_n 3) 1 126 ∧ ((3 : Fin 4) : Nat) = 3 := ⟨⟨vm_row tbX12_rowsTo 65 rfl, rfl⟩, rfl⟩
theorem dX12_rowsTo_126 : vm_br cX12_rowsTo 126 (.if_icmp .ne 7) 3 129 (7) 133 := ⟨vm_row tbX12_rowsTo 66 rfl, rfl, rfl⟩
theorem dX12_rowsTo_129 : vm_at cX12_rowsTo 129 (.iconst 0) 1 130 ∧ Int32.ofInt (0) = (0 : Int32) := ⟨⟨vm_row tbX12_rowsTo 67 rfl, rfl⟩, z_iconst_0⟩
theorem dX12_rowsTo_130 : vm_br cX12_rowsTo 130 (.goto 10) 3 133 (10) 140 := ⟨vm_row tbX12_rowsTo 68 rfl, rfl, rfl⟩
theorem dX12_rowsTo_133 : vm_at cX12_rowsTo 133 (.aload_n 0) 1 134 ∧ ((0 : Fin 4) : Nat) = 0 := ⟨⟨vm_row tbX12_rowsTo 69 rfl, rfl⟩, rfl⟩
theorem dX12_rowsTo_134 : vm_at cX12_rowsTo 134 (.getfield 44) 3 137 := ⟨vm_row tbX12_rowsTo 70 rfl, rfl⟩
theorem dX12_rowsTo_137 : vm_at cX12_rowsTo 137 (.iload 6) 2 139 := ⟨vm_row tbX12_rowsTo 71 rfl, rfl⟩
theorem dX12_rowsTo_139 : vm_at cX12_rowsTo 139 (.iaload) 1 140 := ⟨vm_row tbX12_rowsTo 72 rfl, rfl⟩
theorem dX12_rowsTo_140 : vm_at cX12_rowsTo 140 (.iadd) 1 141 := ⟨vm_row tbX12_rowsTo 73 rfl, rfl⟩
theorem dX12_rowsTo_141 : vm_at cX12_rowsTo 141 (.iastore) 1 142 := ⟨vm_row tbX12_rowsTo 74 rfl, rfl⟩
theorem dX12_rowsTo_142 : vm_at cX12_rowsTo 142 (.iinc 7 1) 3 145 ∧ Int32.ofInt (1) = (1 : Int32) := ⟨⟨vm_row tbX12_rowsTo 75 rfl, rfl⟩, z_iconst_1⟩
theorem dX12_rowsTo_145 : vm_br cX12_rowsTo 145 (.goto (-55)) 3 148 (-55) 90 := ⟨vm_row tbX12_rowsTo 76 rfl, rfl, rfl⟩
theorem dX12_rowsTo_148 : vm_at cX12_rowsTo 148 (.iinc 6 1) 3 151 ∧ Int32.ofInt (1) = (1 : Int32) := ⟨⟨vm_row tbX12_rowsTo 77 rfl, rfl⟩, z_iconst_1⟩
theorem dX12_rowsTo_151 : vm_br cX12_rowsTo 151 (.goto (-73)) 3 154 (-73) 78 := ⟨vm_row tbX12_rowsTo 78 rfl, rfl, rfl⟩
theorem dX12_rowsTo_154 : vm_at cX12_rowsTo 154 (.iconst 0) 1 155 ∧ Int32.ofInt (0) = (0 : Int32) := ⟨⟨vm_row tbX12_rowsTo 79 rfl, rfl⟩, z_iconst_0⟩
theorem dX12_rowsTo_155 : vm_at cX12_rowsTo 155 (.istore 6) 2 157 := ⟨vm_row tbX12_rowsTo 80 rfl, rfl⟩
theorem dX12_rowsTo_157 : vm_at cX12_rowsTo 157 (.iload 6) 2 159 := ⟨vm_row tbX12_rowsTo 81 rfl, rfl⟩
theorem dX12_rowsTo_159 : vm_at cX12_rowsTo 159 (.aload_n 0) 1 160 ∧ ((0 : Fin 4) : Nat) = 0 := ⟨⟨vm_row tbX12_rowsTo 82 rfl, rfl⟩, rfl⟩
theorem dX12_rowsTo_160 : vm_at cX12_rowsTo 160 (.invokevirtual 233) 3 163 := ⟨vm_row tbX12_rowsTo 83 rfl, rfl⟩
theorem dX12_rowsTo_163 : vm_br cX12_rowsTo 163 (.if_icmp .ge 23) 3 166 (23) 186 := ⟨vm_row tbX12_rowsTo 84 rfl, rfl, rfl⟩
theorem dX12_rowsTo_166 : vm_at cX12_rowsTo 166 (.aload_n 0) 1 167 ∧ ((0 : Fin 4) : Nat) = 0 := ⟨⟨vm_row tbX12_rowsTo 85 rfl, rfl⟩, rfl⟩
theorem dX12_rowsTo_167 : vm_at cX12_rowsTo 167 (.getfield 44) 3 170 := ⟨vm_row tbX12_rowsTo 86 rfl, rfl⟩
theorem dX12_rowsTo_170 : vm_at cX12_rowsTo 170 (.iload 6) 2 172 := ⟨vm_row tbX12_rowsTo 87 rfl, rfl⟩
theorem dX12_rowsTo_172 : vm_at cX12_rowsTo 172 (.aload_n 0) 1 173 ∧ ((0 : Fin 4) : Nat) = 0 := ⟨⟨vm_row tbX12_rowsTo 88 rfl, rfl⟩, rfl⟩
theorem dX12_rowsTo_173 : vm_at cX12_rowsTo 173 (.getfield 47) 3 176 := ⟨vm_row tbX12_rowsTo 89 rfl, rfl⟩
theorem dX12_rowsTo_176 : vm_at cX12_rowsTo 176 (.iload 6) 2 178 := ⟨vm_row tbX12_rowsTo 90 rfl, rfl⟩
theorem dX12_rowsTo_178 : vm_at cX12_rowsTo 178 (.iaload) 1 179 := ⟨vm_row tbX12_rowsTo 91 rfl, rfl⟩
theorem dX12_rowsTo_179 : vm_at cX12_rowsTo 179 (.iastore) 1 180 := ⟨vm_row tbX12_rowsTo 92 rfl, rfl⟩
theorem dX12_rowsTo_180 : vm_at cX12_rowsTo 180 (.iinc 6 1) 3 183 ∧ Int32.ofInt (1) = (1 : Int32) := ⟨⟨vm_row tbX12_rowsTo 93 rfl, rfl⟩, z_iconst_1⟩
theorem dX12_rowsTo_183 : vm_br cX12_rowsTo 183 (.goto (-26)) 3 186 (-26) 157 := ⟨vm_row tbX12_rowsTo 94 rfl, rfl, rfl⟩
theorem dX12_rowsTo_186 : vm_at cX12_rowsTo 186 (.iinc 5 1) 3 189 ∧ Int32.ofInt (1) = (1 : Int32) := ⟨⟨vm_row tbX12_rowsTo 95 rfl, rfl⟩, z_iconst_1⟩
theorem dX12_rowsTo_189 : vm_br cX12_rowsTo 189 (.goto (-146)) 3 192 (-146) 43 := ⟨vm_row tbX12_rowsTo 96 rfl, rfl, rfl⟩
theorem dX12_rowsTo_192 : vm_at cX12_rowsTo 192 (.iconst 0) 1 193 ∧ Int32.ofInt (0) = (0 : Int32) := ⟨⟨vm_row tbX12_rowsTo 97 rfl, rfl⟩, z_iconst_0⟩
theorem dX12_rowsTo_193 : vm_at cX12_rowsTo 193 (.istore 5) 2 195 := ⟨vm_row tbX12_rowsTo 98 rfl, rfl⟩
theorem dX12_rowsTo_195 : vm_at cX12_rowsTo 195 (.iconst 0) 1 196 ∧ Int32.ofInt (0) = (0 : Int32) := ⟨⟨vm_row tbX12_rowsTo 99 rfl, rfl⟩, z_iconst_0⟩
theorem dX12_rowsTo_196 : vm_at cX12_rowsTo 196 (.istore 6) 2 198 := ⟨vm_row tbX12_rowsTo 100 rfl, rfl⟩
theorem dX12_rowsTo_198 : vm_at cX12_rowsTo 198 (.iload 6) 2 200 := ⟨vm_row tbX12_rowsTo 101 rfl, rfl⟩
theorem dX12_rowsTo_200 : vm_at cX12_rowsTo 200 (.aload_n 0) 1 201 ∧ ((0 : Fin 4) : Nat) = 0 := ⟨⟨vm_row tbX12_rowsTo 102 rfl, rfl⟩, rfl⟩
theorem dX12_rowsTo_201 : vm_at cX12_rowsTo 201 (.invokevirtual 233) 3 204 := ⟨vm_row tbX12_rowsTo 103 rfl, rfl⟩
theorem dX12_rowsTo_204 : vm_br cX12_rowsTo 204 (.if_icmp .ge 35) 3 207 (35) 239 := ⟨vm_row tbX12_rowsTo 104 rfl, rfl, rfl⟩
theorem dX12_rowsTo_207 : vm_at cX12_rowsTo 207 (.iload 5) 2 209 := ⟨vm_row tbX12_rowsTo 105 rfl, rfl⟩
theorem dX12_rowsTo_209 : vm_at cX12_rowsTo 209 (.aload_n 0) 1 210 ∧ ((0 : Fin 4) : Nat) = 0 := ⟨⟨vm_row tbX12_rowsTo 106 rfl, rfl⟩, rfl⟩
theorem dX12_rowsTo_210 : vm_at cX12_rowsTo 210 (.iload 6) 2 212 := ⟨vm_row tbX12_rowsTo 107 rfl, rfl⟩
theorem dX12_rowsTo_212 : vm_at cX12_rowsTo 212 (.invokevirtual 236) 3 215 := ⟨vm_row tbX12_rowsTo 108 rfl, rfl⟩
theorem dX12_rowsTo_215 : vm_at cX12_rowsTo 215 (.iload_n 2) 1 216 ∧ ((2 : Fin 4) : Nat) = 2 := ⟨⟨vm_row tbX12_rowsTo 109 rfl, rfl⟩, rfl⟩
theorem dX12_rowsTo_216 : vm_br cX12_rowsTo 216 (.if_icmp .ne 13) 3 219 (13) 229 := ⟨vm_row tbX12_rowsTo 110 rfl, rfl, rfl⟩
theorem dX12_rowsTo_219 : vm_at cX12_rowsTo 219 (.aload_n 0) 1 220 ∧ ((0 : Fin 4) : Nat) = 0 := ⟨⟨vm_row tbX12_rowsTo 111 rfl, rfl⟩, rfl⟩
theorem dX12_rowsTo_220 : vm_at cX12_rowsTo 220 (.getfield 44) 3 223 := ⟨vm_row tbX12_rowsTo 112 rfl, rfl⟩
theorem dX12_rowsTo_223 : vm_at cX12_rowsTo 223 (.iload 6) 2 225 := ⟨vm_row tbX12_rowsTo 113 rfl, rfl⟩
theorem dX12_rowsTo_225 : vm_at cX12_rowsTo 225 (.iaload) 1 226 := ⟨vm_row tbX12_rowsTo 114 rfl, rfl⟩
theorem dX12_rowsTo_226 : vm_br cX12_rowsTo 226 (.goto 4) 3 229 (4) 230 := ⟨vm_row tbX12_rowsTo 115 rfl, rfl, rfl⟩
theorem dX12_rowsTo_229 : vm_at cX12_rowsTo 229 (.iconst 0) 1 230 ∧ Int32.ofInt (0) = (0 : Int32) := ⟨⟨vm_row tbX12_rowsTo 116 rfl, rfl⟩, z_iconst_0⟩
theorem dX12_rowsTo_230 : vm_at cX12_rowsTo 230 (.iadd) 1 231 := ⟨vm_row tbX12_rowsTo 117 rfl, rfl⟩
theorem dX12_rowsTo_231 : vm_at cX12_rowsTo 231 (.istore 5) 2 233 := ⟨vm_row tbX12_rowsTo 118 rfl, rfl⟩
theorem dX12_rowsTo_233 : vm_at cX12_rowsTo 233 (.iinc 6 1) 3 236 ∧ Int32.ofInt (1) = (1 : Int32) := ⟨⟨vm_row tbX12_rowsTo 119 rfl, rfl⟩, z_iconst_1⟩
theorem dX12_rowsTo_236 : vm_br cX12_rowsTo 236 (.goto (-38)) 3 239 (-38) 198 := ⟨vm_row tbX12_rowsTo 120 rfl, rfl, rfl⟩
theorem dX12_rowsTo_239 : vm_at cX12_rowsTo 239 (.aload_n 0) 1 240 ∧ ((0 : Fin 4) : Nat) = 0 := ⟨⟨vm_row tbX12_rowsTo 121 rfl, rfl⟩, rfl⟩
theorem dX12_rowsTo_240 : vm_at cX12_rowsTo 240 (.iload 4) 2 242 := ⟨vm_row tbX12_rowsTo 122 rfl, rfl⟩
theorem dX12_rowsTo_242 : vm_at cX12_rowsTo 242 (.invokevirtual 223) 3 245 := ⟨vm_row tbX12_rowsTo 123 rfl, rfl⟩
theorem dX12_rowsTo_245 : vm_at cX12_rowsTo 245 (.iload 5) 2 247 := ⟨vm_row tbX12_rowsTo 124 rfl, rfl⟩
theorem dX12_rowsTo_247 : vm_at cX12_rowsTo 247 (.ireturn) 1 248 := ⟨vm_row tbX12_rowsTo 125 rfl, rfl⟩
def tlX12_struck : List (Nat × Instr × Nat) := [(0, .iload_n 1, 1), (1, .iconst 0, 1), (2, .bipush 8, 2), (4, .invokestatic 68, 3), (7, .ifCond .eq 20, 3), (10, .aload_n 0, 1), (11, .iload_n 2, 1), (12, .invokevirtual 243, 3), (15, .ifCond .eq 12, 3), (18, .iload_n 3, 1), (19, .iconst 0, 1), (20, .iconst 1, 1), (21, .invokestatic 68, 3), (24, .ifCond .ne 6, 3), (27, .ldc 72, 2), (29, .ireturn, 1), (30, .aload_n 0, 1), (31, .iload_n 1, 1), (32, .iload_n 2, 1), (33, .iconst (-1), 1), (34, .invokevirtual 272, 3), (37, .istore 4, 2), (39, .iload_n 3, 1), (40, .ifCond .eq 8, 3), (43, .iload 4, 2), (45, .ifCond .ne 6, 3), (48, .iload 4, 2), (50, .ireturn, 1), (51, .iconst 0, 1), (52, .istore 5, 2), (54, .iconst 0, 1), (55, .istore 6, 2), (57, .iload 6, 2), (59, .aload_n 0, 1), (60, .getfield 182, 3), (63, .if_icmp .ge 33, 3), (66, .iload 5, 2), (68, .aload_n 0, 1), (69, .iload_n 1, 1), (70, .iload_n 2, 1), (71, .iload 6, 2), (73, .invokevirtual 272, 3), (76, .ifCond .ne 10, 3), (79, .iconst 1, 1), (80, .iload 6, 2), (82, .ishl, 1), (83, .goto 4, 3), (86, .iconst 0, 1), (87, .ior, 1), (88, .istore 5, 2), (90, .iinc 6 1, 3), (93, .goto (-36), 3), (96, .iload 5, 2), (98, .ireturn, 1)]
theorem tbX12_struck : vm_chk cX12_struck tlX12_struck = true := by decide +kernel
theorem dX12_struck_0 : vm_at cX12_struck 0 (.iload_n 1) 1 1 ∧ ((1 : Fin 4) : Nat) = 1 := ⟨⟨vm_row tbX12_struck 0 rfl, rfl⟩, rfl⟩
theorem dX12_struck_1 : vm_at cX12_struck 1 (.iconst 0) 1 2 ∧ Int32.ofInt (0) = (0 : Int32) := ⟨⟨vm_row tbX12_struck 1 rfl, rfl⟩, z_iconst_0⟩
theorem dX12_struck_2 : vm_at cX12_struck 2 (.bipush 8) 2 4 ∧ (Int8.ofInt (8)).toInt32 = (8 : Int32) := ⟨⟨vm_row tbX12_struck 2 rfl, rfl⟩, z_bipush_8⟩
theorem dX12_struck_4 : vm_at cX12_struck 4 (.invokestatic 68) 3 7 := ⟨vm_row tbX12_struck 3 rfl, rfl⟩
theorem dX12_struck_7 : vm_br cX12_struck 7 (.ifCond .eq 20) 3 10 (20) 27 := ⟨vm_row tbX12_struck 4 rfl, rfl, rfl⟩
theorem dX12_struck_10 : vm_at cX12_struck 10 (.aload_n 0) 1 11 ∧ ((0 : Fin 4) : Nat) = 0 := ⟨⟨vm_row tbX12_struck 5 rfl, rfl⟩, rfl⟩
theorem dX12_struck_11 : vm_at cX12_struck 11 (.iload_n 2) 1 12 ∧ ((2 : Fin 4) : Nat) = 2 := ⟨⟨vm_row tbX12_struck 6 rfl, rfl⟩, rfl⟩
theorem dX12_struck_12 : vm_at cX12_struck 12 (.invokevirtual 243) 3 15 := ⟨vm_row tbX12_struck 7 rfl, rfl⟩
theorem dX12_struck_15 : vm_br cX12_struck 15 (.ifCond .eq 12) 3 18 (12) 27 := ⟨vm_row tbX12_struck 8 rfl, rfl, rfl⟩
theorem dX12_struck_18 : vm_at cX12_struck 18 (.iload_n 3) 1 19 ∧ ((3 : Fin 4) : Nat) = 3 := ⟨⟨vm_row tbX12_struck 9 rfl, rfl⟩, rfl⟩
theorem dX12_struck_19 : vm_at cX12_struck 19 (.iconst 0) 1 20 ∧ Int32.ofInt (0) = (0 : Int32) := ⟨⟨vm_row tbX12_struck 10 rfl, rfl⟩, z_iconst_0⟩
theorem dX12_struck_20 : vm_at cX12_struck 20 (.iconst 1) 1 21 ∧ Int32.ofInt (1) = (1 : Int32) := ⟨⟨vm_row tbX12_struck 11 rfl, rfl⟩, z_iconst_1⟩
theorem dX12_struck_21 : vm_at cX12_struck 21 (.invokestatic 68) 3 24 := ⟨vm_row tbX12_struck 12 rfl, rfl⟩
theorem dX12_struck_24 : vm_br cX12_struck 24 (.ifCond .ne 6) 3 27 (6) 30 := ⟨vm_row tbX12_struck 13 rfl, rfl, rfl⟩
theorem dX12_struck_27 : vm_at cX12_struck 27 (.ldc 72) 2 29 := ⟨vm_row tbX12_struck 14 rfl, rfl⟩
theorem dX12_struck_29 : vm_at cX12_struck 29 (.ireturn) 1 30 := ⟨vm_row tbX12_struck 15 rfl, rfl⟩
theorem dX12_struck_30 : vm_at cX12_struck 30 (.aload_n 0) 1 31 ∧ ((0 : Fin 4) : Nat) = 0 := ⟨⟨vm_row tbX12_struck 16 rfl, rfl⟩, rfl⟩
theorem dX12_struck_31 : vm_at cX12_struck 31 (.iload_n 1) 1 32 ∧ ((1 : Fin 4) : Nat) = 1 := ⟨⟨vm_row tbX12_struck 17 rfl, rfl⟩, rfl⟩
theorem dX12_struck_32 : vm_at cX12_struck 32 (.iload_n 2) 1 33 ∧ ((2 : Fin 4) : Nat) = 2 := ⟨⟨vm_row tbX12_struck 18 rfl, rfl⟩, rfl⟩
theorem dX12_struck_33 : vm_at cX12_struck 33 (.iconst (-1)) 1 34 ∧ Int32.ofInt (-1) = (-1 : Int32) := ⟨⟨vm_row tbX12_struck 19 rfl, rfl⟩, z_iconst_m1⟩
theorem dX12_struck_34 : vm_at cX12_struck 34 (.invokevirtual 272) 3 37 := ⟨vm_row tbX12_struck 20 rfl, rfl⟩
theorem dX12_struck_37 : vm_at cX12_struck 37 (.istore 4) 2 39 := ⟨vm_row tbX12_struck 21 rfl, rfl⟩
theorem dX12_struck_39 : vm_at cX12_struck 39 (.iload_n 3) 1 40 ∧ ((3 : Fin 4) : Nat) = 3 := ⟨⟨vm_row tbX12_struck 22 rfl, rfl⟩, rfl⟩
theorem dX12_struck_40 : vm_br cX12_struck 40 (.ifCond .eq 8) 3 43 (8) 48 := ⟨vm_row tbX12_struck 23 rfl, rfl, rfl⟩
theorem dX12_struck_43 : vm_at cX12_struck 43 (.iload 4) 2 45 := ⟨vm_row tbX12_struck 24 rfl, rfl⟩
theorem dX12_struck_45 : vm_br cX12_struck 45 (.ifCond .ne 6) 3 48 (6) 51 := ⟨vm_row tbX12_struck 25 rfl, rfl, rfl⟩
theorem dX12_struck_48 : vm_at cX12_struck 48 (.iload 4) 2 50 := ⟨vm_row tbX12_struck 26 rfl, rfl⟩
theorem dX12_struck_50 : vm_at cX12_struck 50 (.ireturn) 1 51 := ⟨vm_row tbX12_struck 27 rfl, rfl⟩
theorem dX12_struck_51 : vm_at cX12_struck 51 (.iconst 0) 1 52 ∧ Int32.ofInt (0) = (0 : Int32) := ⟨⟨vm_row tbX12_struck 28 rfl, rfl⟩, z_iconst_0⟩
theorem dX12_struck_52 : vm_at cX12_struck 52 (.istore 5) 2 54 := ⟨vm_row tbX12_struck 29 rfl, rfl⟩
theorem dX12_struck_54 : vm_at cX12_struck 54 (.iconst 0) 1 55 ∧ Int32.ofInt (0) = (0 : Int32) := ⟨⟨vm_row tbX12_struck 30 rfl, rfl⟩, z_iconst_0⟩
theorem dX12_struck_55 : vm_at cX12_struck 55 (.istore 6) 2 57 := ⟨vm_row tbX12_struck 31 rfl, rfl⟩
theorem dX12_struck_57 : vm_at cX12_struck 57 (.iload 6) 2 59 := ⟨vm_row tbX12_struck 32 rfl, rfl⟩
theorem dX12_struck_59 : vm_at cX12_struck 59 (.aload_n 0) 1 60 ∧ ((0 : Fin 4) : Nat) = 0 := ⟨⟨vm_row tbX12_struck 33 rfl, rfl⟩, rfl⟩
theorem dX12_struck_60 : vm_at cX12_struck 60 (.getfield 182) 3 63 := ⟨vm_row tbX12_struck 34 rfl, rfl⟩
theorem dX12_struck_63 : vm_br cX12_struck 63 (.if_icmp .ge 33) 3 66 (33) 96 := ⟨vm_row tbX12_struck 35 rfl, rfl, rfl⟩
theorem dX12_struck_66 : vm_at cX12_struck 66 (.iload 5) 2 68 := ⟨vm_row tbX12_struck 36 rfl, rfl⟩
theorem dX12_struck_68 : vm_at cX12_struck 68 (.aload_n 0) 1 69 ∧ ((0 : Fin 4) : Nat) = 0 := ⟨⟨vm_row tbX12_struck 37 rfl, rfl⟩, rfl⟩
theorem dX12_struck_69 : vm_at cX12_struck 69 (.iload_n 1) 1 70 ∧ ((1 : Fin 4) : Nat) = 1 := ⟨⟨vm_row tbX12_struck 38 rfl, rfl⟩, rfl⟩
theorem dX12_struck_70 : vm_at cX12_struck 70 (.iload_n 2) 1 71 ∧ ((2 : Fin 4) : Nat) = 2 := ⟨⟨vm_row tbX12_struck 39 rfl, rfl⟩, rfl⟩
theorem dX12_struck_71 : vm_at cX12_struck 71 (.iload 6) 2 73 := ⟨vm_row tbX12_struck 40 rfl, rfl⟩
theorem dX12_struck_73 : vm_at cX12_struck 73 (.invokevirtual 272) 3 76 := ⟨vm_row tbX12_struck 41 rfl, rfl⟩
theorem dX12_struck_76 : vm_br cX12_struck 76 (.ifCond .ne 10) 3 79 (10) 86 := ⟨vm_row tbX12_struck 42 rfl, rfl, rfl⟩
theorem dX12_struck_79 : vm_at cX12_struck 79 (.iconst 1) 1 80 ∧ Int32.ofInt (1) = (1 : Int32) := ⟨⟨vm_row tbX12_struck 43 rfl, rfl⟩, z_iconst_1⟩
theorem dX12_struck_80 : vm_at cX12_struck 80 (.iload 6) 2 82 := ⟨vm_row tbX12_struck 44 rfl, rfl⟩
theorem dX12_struck_82 : vm_at cX12_struck 82 (.ishl) 1 83 := ⟨vm_row tbX12_struck 45 rfl, rfl⟩
theorem dX12_struck_83 : vm_br cX12_struck 83 (.goto 4) 3 86 (4) 87 := ⟨vm_row tbX12_struck 46 rfl, rfl, rfl⟩
theorem dX12_struck_86 : vm_at cX12_struck 86 (.iconst 0) 1 87 ∧ Int32.ofInt (0) = (0 : Int32) := ⟨⟨vm_row tbX12_struck 47 rfl, rfl⟩, z_iconst_0⟩
theorem dX12_struck_87 : vm_at cX12_struck 87 (.ior) 1 88 := ⟨vm_row tbX12_struck 48 rfl, rfl⟩
theorem dX12_struck_88 : vm_at cX12_struck 88 (.istore 5) 2 90 := ⟨vm_row tbX12_struck 49 rfl, rfl⟩
theorem dX12_struck_90 : vm_at cX12_struck 90 (.iinc 6 1) 3 93 ∧ Int32.ofInt (1) = (1 : Int32) := ⟨⟨vm_row tbX12_struck 50 rfl, rfl⟩, z_iconst_1⟩
theorem dX12_struck_93 : vm_br cX12_struck 93 (.goto (-36)) 3 96 (-36) 57 := ⟨vm_row tbX12_struck 51 rfl, rfl, rfl⟩
theorem dX12_struck_96 : vm_at cX12_struck 96 (.iload 5) 2 98 := ⟨vm_row tbX12_struck 52 rfl, rfl⟩
theorem dX12_struck_98 : vm_at cX12_struck 98 (.ireturn) 1 99 := ⟨vm_row tbX12_struck 53 rfl, rfl⟩
def tlX12_bits : List (Nat × Instr × Nat) := [(0, .iconst 0, 1), (1, .istore_n 1, 1), (2, .iconst 0, 1), (3, .istore_n 2, 1), (4, .iload_n 2, 1), (5, .bipush 8, 2), (7, .if_icmp .ge 17, 3), (10, .iload_n 1, 1), (11, .iload_n 0, 1), (12, .iload_n 2, 1), (13, .ishr, 1), (14, .iconst 1, 1), (15, .iand, 1), (16, .iadd, 1), (17, .istore_n 1, 1), (18, .iinc 2 1, 3), (21, .goto (-17), 3), (24, .iload_n 1, 1), (25, .ireturn, 1)]
theorem tbX12_bits : vm_chk cX12_bits tlX12_bits = true := by decide +kernel
theorem dX12_bits_0 : vm_at cX12_bits 0 (.iconst 0) 1 1 ∧ Int32.ofInt (0) = (0 : Int32) := ⟨⟨vm_row tbX12_bits 0 rfl, rfl⟩, z_iconst_0⟩
theorem dX12_bits_1 : vm_at cX12_bits 1 (.istore_n 1) 1 2 ∧ ((1 : Fin 4) : Nat) = 1 := ⟨⟨vm_row tbX12_bits 1 rfl, rfl⟩, rfl⟩
theorem dX12_bits_2 : vm_at cX12_bits 2 (.iconst 0) 1 3 ∧ Int32.ofInt (0) = (0 : Int32) := ⟨⟨vm_row tbX12_bits 2 rfl, rfl⟩, z_iconst_0⟩
theorem dX12_bits_3 : vm_at cX12_bits 3 (.istore_n 2) 1 4 ∧ ((2 : Fin 4) : Nat) = 2 := ⟨⟨vm_row tbX12_bits 3 rfl, rfl⟩, rfl⟩
theorem dX12_bits_4 : vm_at cX12_bits 4 (.iload_n 2) 1 5 ∧ ((2 : Fin 4) : Nat) = 2 := ⟨⟨vm_row tbX12_bits 4 rfl, rfl⟩, rfl⟩
theorem dX12_bits_5 : vm_at cX12_bits 5 (.bipush 8) 2 7 ∧ (Int8.ofInt (8)).toInt32 = (8 : Int32) := ⟨⟨vm_row tbX12_bits 5 rfl, rfl⟩, z_bipush_8⟩
theorem dX12_bits_7 : vm_br cX12_bits 7 (.if_icmp .ge 17) 3 10 (17) 24 := ⟨vm_row tbX12_bits 6 rfl, rfl, rfl⟩
theorem dX12_bits_10 : vm_at cX12_bits 10 (.iload_n 1) 1 11 ∧ ((1 : Fin 4) : Nat) = 1 := ⟨⟨vm_row tbX12_bits 7 rfl, rfl⟩, rfl⟩
theorem dX12_bits_11 : vm_at cX12_bits 11 (.iload_n 0) 1 12 ∧ ((0 : Fin 4) : Nat) = 0 := ⟨⟨vm_row tbX12_bits 8 rfl, rfl⟩, rfl⟩
theorem dX12_bits_12 : vm_at cX12_bits 12 (.iload_n 2) 1 13 ∧ ((2 : Fin 4) : Nat) = 2 := ⟨⟨vm_row tbX12_bits 9 rfl, rfl⟩, rfl⟩
theorem dX12_bits_13 : vm_at cX12_bits 13 (.ishr) 1 14 := ⟨vm_row tbX12_bits 10 rfl, rfl⟩
theorem dX12_bits_14 : vm_at cX12_bits 14 (.iconst 1) 1 15 ∧ Int32.ofInt (1) = (1 : Int32) := ⟨⟨vm_row tbX12_bits 11 rfl, rfl⟩, z_iconst_1⟩
theorem dX12_bits_15 : vm_at cX12_bits 15 (.iand) 1 16 := ⟨vm_row tbX12_bits 12 rfl, rfl⟩
theorem dX12_bits_16 : vm_at cX12_bits 16 (.iadd) 1 17 := ⟨vm_row tbX12_bits 13 rfl, rfl⟩
theorem dX12_bits_17 : vm_at cX12_bits 17 (.istore_n 1) 1 18 ∧ ((1 : Fin 4) : Nat) = 1 := ⟨⟨vm_row tbX12_bits 14 rfl, rfl⟩, rfl⟩
theorem dX12_bits_18 : vm_at cX12_bits 18 (.iinc 2 1) 3 21 ∧ Int32.ofInt (1) = (1 : Int32) := ⟨⟨vm_row tbX12_bits 15 rfl, rfl⟩, z_iconst_1⟩
theorem dX12_bits_21 : vm_br cX12_bits 21 (.goto (-17)) 3 24 (-17) 4 := ⟨vm_row tbX12_bits 16 rfl, rfl, rfl⟩
theorem dX12_bits_24 : vm_at cX12_bits 24 (.iload_n 1) 1 25 ∧ ((1 : Fin 4) : Nat) = 1 := ⟨⟨vm_row tbX12_bits 17 rfl, rfl⟩, rfl⟩
theorem dX12_bits_25 : vm_at cX12_bits 25 (.ireturn) 1 26 := ⟨vm_row tbX12_bits 18 rfl, rfl⟩
def tlX12_shownBy : List (Nat × Instr × Nat) := [(0, .lconst 0, 1), (1, .lstore 4, 2), (3, .iload_n 1, 1), (4, .istore 6, 2), (6, .iconst 0, 1), (7, .istore 7, 2), (9, .iload 7, 2), (11, .iload_n 2, 1), (12, .if_icmp .ge 64, 3), (15, .iload 6, 2), (17, .aload_n 0, 1), (18, .getfield 182, 3), (21, .iconst 1, 1), (22, .iadd, 1), (23, .irem, 1), (24, .istore 8, 2), (26, .iload 6, 2), (28, .aload_n 0, 1), (29, .getfield 182, 3), (32, .iconst 1, 1), (33, .iadd, 1), (34, .idiv, 1), (35, .istore 6, 2), (37, .aload_n 0, 1), (38, .iload 8, 2), (40, .aload_n 0, 1), (41, .getfield 182, 3), (44, .if_icmp .ne 7, 3), (47, .iload_n 3, 1), (48, .goto 5, 3), (51, .iload 8, 2), (53, .invokevirtual 226, 3), (56, .ldc2_w 275, 3), (59, .lload 4, 2), (61, .lmul, 1), (62, .aload_n 0, 1), (63, .getfield 197, 3), (66, .i2l, 1), (67, .ladd, 1), (68, .lstore 4, 2), (70, .iinc 7 1, 3), (73, .goto (-64), 3), (76, .lload 4, 2), (78, .lreturn, 1)]
theorem tbX12_shownBy : vm_chk cX12_shownBy tlX12_shownBy = true := by decide +kernel
theorem dX12_shownBy_0 : vm_at cX12_shownBy 0 (.lconst 0) 1 1 ∧ Int64.ofNat ((0 : Fin 2) : Nat) = (0 : Int64) := ⟨⟨vm_row tbX12_shownBy 0 rfl, rfl⟩, rfl⟩
theorem dX12_shownBy_1 : vm_at cX12_shownBy 1 (.lstore 4) 2 3 := ⟨vm_row tbX12_shownBy 1 rfl, rfl⟩
theorem dX12_shownBy_3 : vm_at cX12_shownBy 3 (.iload_n 1) 1 4 ∧ ((1 : Fin 4) : Nat) = 1 := ⟨⟨vm_row tbX12_shownBy 2 rfl, rfl⟩, rfl⟩
theorem dX12_shownBy_4 : vm_at cX12_shownBy 4 (.istore 6) 2 6 := ⟨vm_row tbX12_shownBy 3 rfl, rfl⟩
theorem dX12_shownBy_6 : vm_at cX12_shownBy 6 (.iconst 0) 1 7 ∧ Int32.ofInt (0) = (0 : Int32) := ⟨⟨vm_row tbX12_shownBy 4 rfl, rfl⟩, z_iconst_0⟩
theorem dX12_shownBy_7 : vm_at cX12_shownBy 7 (.istore 7) 2 9 := ⟨vm_row tbX12_shownBy 5 rfl, rfl⟩
theorem dX12_shownBy_9 : vm_at cX12_shownBy 9 (.iload 7) 2 11 := ⟨vm_row tbX12_shownBy 6 rfl, rfl⟩
theorem dX12_shownBy_11 : vm_at cX12_shownBy 11 (.iload_n 2) 1 12 ∧ ((2 : Fin 4) : Nat) = 2 := ⟨⟨vm_row tbX12_shownBy 7 rfl, rfl⟩, rfl⟩
theorem dX12_shownBy_12 : vm_br cX12_shownBy 12 (.if_icmp .ge 64) 3 15 (64) 76 := ⟨vm_row tbX12_shownBy 8 rfl, rfl, rfl⟩
theorem dX12_shownBy_15 : vm_at cX12_shownBy 15 (.iload 6) 2 17 := ⟨vm_row tbX12_shownBy 9 rfl, rfl⟩
theorem dX12_shownBy_17 : vm_at cX12_shownBy 17 (.aload_n 0) 1 18 ∧ ((0 : Fin 4) : Nat) = 0 := ⟨⟨vm_row tbX12_shownBy 10 rfl, rfl⟩, rfl⟩
theorem dX12_shownBy_18 : vm_at cX12_shownBy 18 (.getfield 182) 3 21 := ⟨vm_row tbX12_shownBy 11 rfl, rfl⟩
theorem dX12_shownBy_21 : vm_at cX12_shownBy 21 (.iconst 1) 1 22 ∧ Int32.ofInt (1) = (1 : Int32) := ⟨⟨vm_row tbX12_shownBy 12 rfl, rfl⟩, z_iconst_1⟩
theorem dX12_shownBy_22 : vm_at cX12_shownBy 22 (.iadd) 1 23 := ⟨vm_row tbX12_shownBy 13 rfl, rfl⟩
theorem dX12_shownBy_23 : vm_at cX12_shownBy 23 (.irem) 1 24 := ⟨vm_row tbX12_shownBy 14 rfl, rfl⟩
theorem dX12_shownBy_24 : vm_at cX12_shownBy 24 (.istore 8) 2 26 := ⟨vm_row tbX12_shownBy 15 rfl, rfl⟩
theorem dX12_shownBy_26 : vm_at cX12_shownBy 26 (.iload 6) 2 28 := ⟨vm_row tbX12_shownBy 16 rfl, rfl⟩
theorem dX12_shownBy_28 : vm_at cX12_shownBy 28 (.aload_n 0) 1 29 ∧ ((0 : Fin 4) : Nat) = 0 := ⟨⟨vm_row tbX12_shownBy 17 rfl, rfl⟩, rfl⟩
theorem dX12_shownBy_29 : vm_at cX12_shownBy 29 (.getfield 182) 3 32 := ⟨vm_row tbX12_shownBy 18 rfl, rfl⟩
theorem dX12_shownBy_32 : vm_at cX12_shownBy 32 (.iconst 1) 1 33 ∧ Int32.ofInt (1) = (1 : Int32) := ⟨⟨vm_row tbX12_shownBy 19 rfl, rfl⟩, z_iconst_1⟩
theorem dX12_shownBy_33 : vm_at cX12_shownBy 33 (.iadd) 1 34 := ⟨vm_row tbX12_shownBy 20 rfl, rfl⟩
theorem dX12_shownBy_34 : vm_at cX12_shownBy 34 (.idiv) 1 35 := ⟨vm_row tbX12_shownBy 21 rfl, rfl⟩
theorem dX12_shownBy_35 : vm_at cX12_shownBy 35 (.istore 6) 2 37 := ⟨vm_row tbX12_shownBy 22 rfl, rfl⟩
theorem dX12_shownBy_37 : vm_at cX12_shownBy 37 (.aload_n 0) 1 38 ∧ ((0 : Fin 4) : Nat) = 0 := ⟨⟨vm_row tbX12_shownBy 23 rfl, rfl⟩, rfl⟩
theorem dX12_shownBy_38 : vm_at cX12_shownBy 38 (.iload 8) 2 40 := ⟨vm_row tbX12_shownBy 24 rfl, rfl⟩
theorem dX12_shownBy_40 : vm_at cX12_shownBy 40 (.aload_n 0) 1 41 ∧ ((0 : Fin 4) : Nat) = 0 := ⟨⟨vm_row tbX12_shownBy 25 rfl, rfl⟩, rfl⟩
theorem dX12_shownBy_41 : vm_at cX12_shownBy 41 (.getfield 182) 3 44 := ⟨vm_row tbX12_shownBy 26 rfl, rfl⟩
theorem dX12_shownBy_44 : vm_br cX12_shownBy 44 (.if_icmp .ne 7) 3 47 (7) 51 := ⟨vm_row tbX12_shownBy 27 rfl, rfl, rfl⟩
theorem dX12_shownBy_47 : vm_at cX12_shownBy 47 (.iload_n 3) 1 48 ∧ ((3 : Fin 4) : Nat) = 3 := ⟨⟨vm_row tbX12_shownBy 28 rfl, rfl⟩, rfl⟩
theorem dX12_shownBy_48 : vm_br cX12_shownBy 48 (.goto 5) 3 51 (5) 53 := ⟨vm_row tbX12_shownBy 29 rfl, rfl, rfl⟩
theorem dX12_shownBy_51 : vm_at cX12_shownBy 51 (.iload 8) 2 53 := ⟨vm_row tbX12_shownBy 30 rfl, rfl⟩
theorem dX12_shownBy_53 : vm_at cX12_shownBy 53 (.invokevirtual 226) 3 56 := ⟨vm_row tbX12_shownBy 31 rfl, rfl⟩
theorem dX12_shownBy_56 : vm_at cX12_shownBy 56 (.ldc2_w 275) 3 59 := ⟨vm_row tbX12_shownBy 32 rfl, rfl⟩
theorem dX12_shownBy_59 : vm_at cX12_shownBy 59 (.lload 4) 2 61 := ⟨vm_row tbX12_shownBy 33 rfl, rfl⟩
theorem dX12_shownBy_61 : vm_at cX12_shownBy 61 (.lmul) 1 62 := ⟨vm_row tbX12_shownBy 34 rfl, rfl⟩
theorem dX12_shownBy_62 : vm_at cX12_shownBy 62 (.aload_n 0) 1 63 ∧ ((0 : Fin 4) : Nat) = 0 := ⟨⟨vm_row tbX12_shownBy 35 rfl, rfl⟩, rfl⟩
theorem dX12_shownBy_63 : vm_at cX12_shownBy 63 (.getfield 197) 3 66 := ⟨vm_row tbX12_shownBy 36 rfl, rfl⟩
theorem dX12_shownBy_66 : vm_at cX12_shownBy 66 (.i2l) 1 67 := ⟨vm_row tbX12_shownBy 37 rfl, rfl⟩
theorem dX12_shownBy_67 : vm_at cX12_shownBy 67 (.ladd) 1 68 := ⟨vm_row tbX12_shownBy 38 rfl, rfl⟩
theorem dX12_shownBy_68 : vm_at cX12_shownBy 68 (.lstore 4) 2 70 := ⟨vm_row tbX12_shownBy 39 rfl, rfl⟩
theorem dX12_shownBy_70 : vm_at cX12_shownBy 70 (.iinc 7 1) 3 73 ∧ Int32.ofInt (1) = (1 : Int32) := ⟨⟨vm_row tbX12_shownBy 40 rfl, rfl⟩, z_iconst_1⟩
theorem dX12_shownBy_73 : vm_br cX12_shownBy 73 (.goto (-64)) 3 76 (-64) 9 := ⟨vm_row tbX12_shownBy 41 rfl, rfl, rfl⟩
theorem dX12_shownBy_76 : vm_at cX12_shownBy 76 (.lload 4) 2 78 := ⟨vm_row tbX12_shownBy 42 rfl, rfl⟩
theorem dX12_shownBy_78 : vm_at cX12_shownBy 78 (.lreturn) 1 79 := ⟨vm_row tbX12_shownBy 43 rfl, rfl⟩
def tlX12_tells : List (Nat × Instr × Nat) := [(0, .iconst 1, 1), (1, .istore 5, 2), (3, .iconst 0, 1), (4, .istore 6, 2), (6, .iload 6, 2), (8, .aload_n 0, 1), (9, .getfield 182, 3), (12, .if_icmp .ge 96, 3), (15, .iload 5, 2), (17, .ifCond .eq 91, 3), (20, .iconst 0, 1), (21, .istore 7, 2), (23, .iload 7, 2), (25, .iload 6, 2), (27, .if_icmp .ge 75, 3), (30, .iload 5, 2), (32, .ifCond .eq 70, 3), (35, .iload_n 3, 1), (36, .iload 6, 2), (38, .invokestatic 277, 3), (41, .ifCond .eq 55, 3), (44, .iload_n 3, 1), (45, .iload 7, 2), (47, .invokestatic 277, 3), (50, .ifCond .eq 46, 3), (53, .aload_n 0, 1), (54, .iload 4, 2), (56, .invokevirtual 223, 3), (59, .aload_n 0, 1), (60, .iload_n 1, 1), (61, .iload_n 2, 1), (62, .iload 6, 2), (64, .invokevirtual 281, 3), (67, .lstore 8, 2), (69, .aload_n 0, 1), (70, .iload 4, 2), (72, .invokevirtual 223, 3), (75, .lload 8, 2), (77, .aload_n 0, 1), (78, .iload_n 1, 1), (79, .iload_n 2, 1), (80, .iload 7, 2), (82, .invokevirtual 281, 3), (85, .lcmp, 1), (86, .ifCond .eq 7, 3), (89, .iconst 1, 1), (90, .goto 4, 3), (93, .iconst 0, 1), (94, .istore 5, 2), (96, .iinc 7 1, 3), (99, .goto (-76), 3), (102, .iinc 6 1, 3), (105, .goto (-99), 3), (108, .iload 5, 2), (110, .ireturn, 1)]
theorem tbX12_tells : vm_chk cX12_tells tlX12_tells = true := by decide +kernel
theorem dX12_tells_0 : vm_at cX12_tells 0 (.iconst 1) 1 1 ∧ Int32.ofInt (1) = (1 : Int32) := ⟨⟨vm_row tbX12_tells 0 rfl, rfl⟩, z_iconst_1⟩
theorem dX12_tells_1 : vm_at cX12_tells 1 (.istore 5) 2 3 := ⟨vm_row tbX12_tells 1 rfl, rfl⟩
theorem dX12_tells_3 : vm_at cX12_tells 3 (.iconst 0) 1 4 ∧ Int32.ofInt (0) = (0 : Int32) := ⟨⟨vm_row tbX12_tells 2 rfl, rfl⟩, z_iconst_0⟩
theorem dX12_tells_4 : vm_at cX12_tells 4 (.istore 6) 2 6 := ⟨vm_row tbX12_tells 3 rfl, rfl⟩
theorem dX12_tells_6 : vm_at cX12_tells 6 (.iload 6) 2 8 := ⟨vm_row tbX12_tells 4 rfl, rfl⟩
theorem dX12_tells_8 : vm_at cX12_tells 8 (.aload_n 0) 1 9 ∧ ((0 : Fin 4) : Nat) = 0 := ⟨⟨vm_row tbX12_tells 5 rfl, rfl⟩, rfl⟩
theorem dX12_tells_9 : vm_at cX12_tells 9 (.getfield 182) 3 12 := ⟨vm_row tbX12_tells 6 rfl, rfl⟩
theorem dX12_tells_12 : vm_br cX12_tells 12 (.if_icmp .ge 96) 3 15 (96) 108 := ⟨vm_row tbX12_tells 7 rfl, rfl, rfl⟩
theorem dX12_tells_15 : vm_at cX12_tells 15 (.iload 5) 2 17 := ⟨vm_row tbX12_tells 8 rfl, rfl⟩
theorem dX12_tells_17 : vm_br cX12_tells 17 (.ifCond .eq 91) 3 20 (91) 108 := ⟨vm_row tbX12_tells 9 rfl, rfl, rfl⟩
theorem dX12_tells_20 : vm_at cX12_tells 20 (.iconst 0) 1 21 ∧ Int32.ofInt (0) = (0 : Int32) := ⟨⟨vm_row tbX12_tells 10 rfl, rfl⟩, z_iconst_0⟩
theorem dX12_tells_21 : vm_at cX12_tells 21 (.istore 7) 2 23 := ⟨vm_row tbX12_tells 11 rfl, rfl⟩
theorem dX12_tells_23 : vm_at cX12_tells 23 (.iload 7) 2 25 := ⟨vm_row tbX12_tells 12 rfl, rfl⟩
theorem dX12_tells_25 : vm_at cX12_tells 25 (.iload 6) 2 27 := ⟨vm_row tbX12_tells 13 rfl, rfl⟩
theorem dX12_tells_27 : vm_br cX12_tells 27 (.if_icmp .ge 75) 3 30 (75) 102 := ⟨vm_row tbX12_tells 14 rfl, rfl, rfl⟩
theorem dX12_tells_30 : vm_at cX12_tells 30 (.iload 5) 2 32 := ⟨vm_row tbX12_tells 15 rfl, rfl⟩
theorem dX12_tells_32 : vm_br cX12_tells 32 (.ifCond .eq 70) 3 35 (70) 102 := ⟨vm_row tbX12_tells 16 rfl, rfl, rfl⟩
theorem dX12_tells_35 : vm_at cX12_tells 35 (.iload_n 3) 1 36 ∧ ((3 : Fin 4) : Nat) = 3 := ⟨⟨vm_row tbX12_tells 17 rfl, rfl⟩, rfl⟩
theorem dX12_tells_36 : vm_at cX12_tells 36 (.iload 6) 2 38 := ⟨vm_row tbX12_tells 18 rfl, rfl⟩
theorem dX12_tells_38 : vm_at cX12_tells 38 (.invokestatic 277) 3 41 := ⟨vm_row tbX12_tells 19 rfl, rfl⟩
theorem dX12_tells_41 : vm_br cX12_tells 41 (.ifCond .eq 55) 3 44 (55) 96 := ⟨vm_row tbX12_tells 20 rfl, rfl, rfl⟩
theorem dX12_tells_44 : vm_at cX12_tells 44 (.iload_n 3) 1 45 ∧ ((3 : Fin 4) : Nat) = 3 := ⟨⟨vm_row tbX12_tells 21 rfl, rfl⟩, rfl⟩
theorem dX12_tells_45 : vm_at cX12_tells 45 (.iload 7) 2 47 := ⟨vm_row tbX12_tells 22 rfl, rfl⟩
theorem dX12_tells_47 : vm_at cX12_tells 47 (.invokestatic 277) 3 50 := ⟨vm_row tbX12_tells 23 rfl, rfl⟩
theorem dX12_tells_50 : vm_br cX12_tells 50 (.ifCond .eq 46) 3 53 (46) 96 := ⟨vm_row tbX12_tells 24 rfl, rfl, rfl⟩
theorem dX12_tells_53 : vm_at cX12_tells 53 (.aload_n 0) 1 54 ∧ ((0 : Fin 4) : Nat) = 0 := ⟨⟨vm_row tbX12_tells 25 rfl, rfl⟩, rfl⟩
theorem dX12_tells_54 : vm_at cX12_tells 54 (.iload 4) 2 56 := ⟨vm_row tbX12_tells 26 rfl, rfl⟩
theorem dX12_tells_56 : vm_at cX12_tells 56 (.invokevirtual 223) 3 59 := ⟨vm_row tbX12_tells 27 rfl, rfl⟩
theorem dX12_tells_59 : vm_at cX12_tells 59 (.aload_n 0) 1 60 ∧ ((0 : Fin 4) : Nat) = 0 := ⟨⟨vm_row tbX12_tells 28 rfl, rfl⟩, rfl⟩
theorem dX12_tells_60 : vm_at cX12_tells 60 (.iload_n 1) 1 61 ∧ ((1 : Fin 4) : Nat) = 1 := ⟨⟨vm_row tbX12_tells 29 rfl, rfl⟩, rfl⟩
theorem dX12_tells_61 : vm_at cX12_tells 61 (.iload_n 2) 1 62 ∧ ((2 : Fin 4) : Nat) = 2 := ⟨⟨vm_row tbX12_tells 30 rfl, rfl⟩, rfl⟩
theorem dX12_tells_62 : vm_at cX12_tells 62 (.iload 6) 2 64 := ⟨vm_row tbX12_tells 31 rfl, rfl⟩
theorem dX12_tells_64 : vm_at cX12_tells 64 (.invokevirtual 281) 3 67 := ⟨vm_row tbX12_tells 32 rfl, rfl⟩
theorem dX12_tells_67 : vm_at cX12_tells 67 (.lstore 8) 2 69 := ⟨vm_row tbX12_tells 33 rfl, rfl⟩
theorem dX12_tells_69 : vm_at cX12_tells 69 (.aload_n 0) 1 70 ∧ ((0 : Fin 4) : Nat) = 0 := ⟨⟨vm_row tbX12_tells 34 rfl, rfl⟩, rfl⟩
theorem dX12_tells_70 : vm_at cX12_tells 70 (.iload 4) 2 72 := ⟨vm_row tbX12_tells 35 rfl, rfl⟩
theorem dX12_tells_72 : vm_at cX12_tells 72 (.invokevirtual 223) 3 75 := ⟨vm_row tbX12_tells 36 rfl, rfl⟩
theorem dX12_tells_75 : vm_at cX12_tells 75 (.lload 8) 2 77 := ⟨vm_row tbX12_tells 37 rfl, rfl⟩
theorem dX12_tells_77 : vm_at cX12_tells 77 (.aload_n 0) 1 78 ∧ ((0 : Fin 4) : Nat) = 0 := ⟨⟨vm_row tbX12_tells 38 rfl, rfl⟩, rfl⟩
theorem dX12_tells_78 : vm_at cX12_tells 78 (.iload_n 1) 1 79 ∧ ((1 : Fin 4) : Nat) = 1 := ⟨⟨vm_row tbX12_tells 39 rfl, rfl⟩, rfl⟩
theorem dX12_tells_79 : vm_at cX12_tells 79 (.iload_n 2) 1 80 ∧ ((2 : Fin 4) : Nat) = 2 := ⟨⟨vm_row tbX12_tells 40 rfl, rfl⟩, rfl⟩
theorem dX12_tells_80 : vm_at cX12_tells 80 (.iload 7) 2 82 := ⟨vm_row tbX12_tells 41 rfl, rfl⟩
theorem dX12_tells_82 : vm_at cX12_tells 82 (.invokevirtual 281) 3 85 := ⟨vm_row tbX12_tells 42 rfl, rfl⟩
theorem dX12_tells_85 : vm_at cX12_tells 85 (.lcmp) 1 86 := ⟨vm_row tbX12_tells 43 rfl, rfl⟩
theorem dX12_tells_86 : vm_br cX12_tells 86 (.ifCond .eq 7) 3 89 (7) 93 := ⟨vm_row tbX12_tells 44 rfl, rfl, rfl⟩
theorem dX12_tells_89 : vm_at cX12_tells 89 (.iconst 1) 1 90 ∧ Int32.ofInt (1) = (1 : Int32) := ⟨⟨vm_row tbX12_tells 45 rfl, rfl⟩, z_iconst_1⟩
theorem dX12_tells_90 : vm_br cX12_tells 90 (.goto 4) 3 93 (4) 94 := ⟨vm_row tbX12_tells 46 rfl, rfl, rfl⟩
theorem dX12_tells_93 : vm_at cX12_tells 93 (.iconst 0) 1 94 ∧ Int32.ofInt (0) = (0 : Int32) := ⟨⟨vm_row tbX12_tells 47 rfl, rfl⟩, z_iconst_0⟩
theorem dX12_tells_94 : vm_at cX12_tells 94 (.istore 5) 2 96 := ⟨vm_row tbX12_tells 48 rfl, rfl⟩
theorem dX12_tells_96 : vm_at cX12_tells 96 (.iinc 7 1) 3 99 ∧ Int32.ofInt (1) = (1 : Int32) := ⟨⟨vm_row tbX12_tells 49 rfl, rfl⟩, z_iconst_1⟩
theorem dX12_tells_99 : vm_br cX12_tells 99 (.goto (-76)) 3 102 (-76) 23 := ⟨vm_row tbX12_tells 50 rfl, rfl, rfl⟩
theorem dX12_tells_102 : vm_at cX12_tells 102 (.iinc 6 1) 3 105 ∧ Int32.ofInt (1) = (1 : Int32) := ⟨⟨vm_row tbX12_tells 51 rfl, rfl⟩, z_iconst_1⟩
theorem dX12_tells_105 : vm_br cX12_tells 105 (.goto (-99)) 3 108 (-99) 6 := ⟨vm_row tbX12_tells 52 rfl, rfl, rfl⟩
theorem dX12_tells_108 : vm_at cX12_tells 108 (.iload 5) 2 110 := ⟨vm_row tbX12_tells 53 rfl, rfl⟩
theorem dX12_tells_110 : vm_at cX12_tells 110 (.ireturn) 1 111 := ⟨vm_row tbX12_tells 54 rfl, rfl⟩
def tlX12_lost : List (Nat × Instr × Nat) := [(0, .iload_n 1, 1), (1, .iconst 0, 1), (2, .iconst 1, 1), (3, .aload_n 0, 1), (4, .getfield 182, 3), (7, .ishl, 1), (8, .iconst 1, 1), (9, .isub, 1), (10, .invokestatic 68, 3), (13, .ifCond .ne 6, 3), (16, .ldc 210, 2), (18, .ireturn, 1), (19, .iload_n 1, 1), (20, .invokestatic 285, 3), (23, .iconst 2, 1), (24, .if_icmp .ge 6, 3), (27, .ldc 72, 2), (29, .ireturn, 1), (30, .aload_n 0, 1), (31, .invokevirtual 229, 3), (34, .istore_n 2, 1), (35, .iconst 1, 1), (36, .istore_n 3, 1), (37, .iconst (-1), 1), (38, .istore 4, 2), (40, .iconst 1, 1), (41, .istore 5, 2), (43, .iload 5, 2), (45, .iconst 5, 1), (46, .if_icmp .ge 66, 3), (49, .iload 4, 2), (51, .iconst (-1), 1), (52, .if_icmp .ne 60, 3), (55, .iload_n 3, 1), (56, .aload_n 0, 1), (57, .getfield 182, 3), (60, .iconst 1, 1), (61, .iadd, 1), (62, .imul, 1), (63, .istore_n 3, 1), (64, .iconst 0, 1), (65, .istore 6, 2), (67, .iload 6, 2), (69, .iload_n 3, 1), (70, .if_icmp .ge 36, 3), (73, .iload 4, 2), (75, .iconst (-1), 1), (76, .if_icmp .ne 30, 3), (79, .aload_n 0, 1), (80, .iload 6, 2), (82, .iload 5, 2), (84, .iload_n 1, 1), (85, .iload_n 2, 1), (86, .invokevirtual 288, 3), (89, .ifCond .eq 8, 3), (92, .iload 5, 2), (94, .goto 4, 3), (97, .iconst (-1), 1), (98, .istore 4, 2), (100, .iinc 6 1, 3), (103, .goto (-36), 3), (106, .iinc 5 1, 3), (109, .goto (-66), 3), (112, .aload_n 0, 1), (113, .iload_n 2, 1), (114, .invokevirtual 223, 3), (117, .iload 4, 2), (119, .ireturn, 1)]
theorem tbX12_lost : vm_chk cX12_lost tlX12_lost = true := by decide +kernel
theorem dX12_lost_0 : vm_at cX12_lost 0 (.iload_n 1) 1 1 ∧ ((1 : Fin 4) : Nat) = 1 := ⟨⟨vm_row tbX12_lost 0 rfl, rfl⟩, rfl⟩
theorem dX12_lost_1 : vm_at cX12_lost 1 (.iconst 0) 1 2 ∧ Int32.ofInt (0) = (0 : Int32) := ⟨⟨vm_row tbX12_lost 1 rfl, rfl⟩, z_iconst_0⟩
theorem dX12_lost_2 : vm_at cX12_lost 2 (.iconst 1) 1 3 ∧ Int32.ofInt (1) = (1 : Int32) := ⟨⟨vm_row tbX12_lost 2 rfl, rfl⟩, z_iconst_1⟩
theorem dX12_lost_3 : vm_at cX12_lost 3 (.aload_n 0) 1 4 ∧ ((0 : Fin 4) : Nat) = 0 := ⟨⟨vm_row tbX12_lost 3 rfl, rfl⟩, rfl⟩
theorem dX12_lost_4 : vm_at cX12_lost 4 (.getfield 182) 3 7 := ⟨vm_row tbX12_lost 4 rfl, rfl⟩
theorem dX12_lost_7 : vm_at cX12_lost 7 (.ishl) 1 8 := ⟨vm_row tbX12_lost 5 rfl, rfl⟩
theorem dX12_lost_8 : vm_at cX12_lost 8 (.iconst 1) 1 9 ∧ Int32.ofInt (1) = (1 : Int32) := ⟨⟨vm_row tbX12_lost 6 rfl, rfl⟩, z_iconst_1⟩
theorem dX12_lost_9 : vm_at cX12_lost 9 (.isub) 1 10 := ⟨vm_row tbX12_lost 7 rfl, rfl⟩
theorem dX12_lost_10 : vm_at cX12_lost 10 (.invokestatic 68) 3 13 := ⟨vm_row tbX12_lost 8 rfl, rfl⟩
theorem dX12_lost_13 : vm_br cX12_lost 13 (.ifCond .ne 6) 3 16 (6) 19 := ⟨vm_row tbX12_lost 9 rfl, rfl, rfl⟩
theorem dX12_lost_16 : vm_at cX12_lost 16 (.ldc 210) 2 18 := ⟨vm_row tbX12_lost 10 rfl, rfl⟩
theorem dX12_lost_18 : vm_at cX12_lost 18 (.ireturn) 1 19 := ⟨vm_row tbX12_lost 11 rfl, rfl⟩
theorem dX12_lost_19 : vm_at cX12_lost 19 (.iload_n 1) 1 20 ∧ ((1 : Fin 4) : Nat) = 1 := ⟨⟨vm_row tbX12_lost 12 rfl, rfl⟩, rfl⟩
theorem dX12_lost_20 : vm_at cX12_lost 20 (.invokestatic 285) 3 23 := ⟨vm_row tbX12_lost 13 rfl, rfl⟩
theorem dX12_lost_23 : vm_at cX12_lost 23 (.iconst 2) 1 24 ∧ Int32.ofInt (2) = (2 : Int32) := ⟨⟨vm_row tbX12_lost 14 rfl, rfl⟩, z_iconst_2⟩
theorem dX12_lost_24 : vm_br cX12_lost 24 (.if_icmp .ge 6) 3 27 (6) 30 := ⟨vm_row tbX12_lost 15 rfl, rfl, rfl⟩
theorem dX12_lost_27 : vm_at cX12_lost 27 (.ldc 72) 2 29 := ⟨vm_row tbX12_lost 16 rfl, rfl⟩
theorem dX12_lost_29 : vm_at cX12_lost 29 (.ireturn) 1 30 := ⟨vm_row tbX12_lost 17 rfl, rfl⟩
theorem dX12_lost_30 : vm_at cX12_lost 30 (.aload_n 0) 1 31 ∧ ((0 : Fin 4) : Nat) = 0 := ⟨⟨vm_row tbX12_lost 18 rfl, rfl⟩, rfl⟩
theorem dX12_lost_31 : vm_at cX12_lost 31 (.invokevirtual 229) 3 34 := ⟨vm_row tbX12_lost 19 rfl, rfl⟩
theorem dX12_lost_34 : vm_at cX12_lost 34 (.istore_n 2) 1 35 ∧ ((2 : Fin 4) : Nat) = 2 := ⟨⟨vm_row tbX12_lost 20 rfl, rfl⟩, rfl⟩
theorem dX12_lost_35 : vm_at cX12_lost 35 (.iconst 1) 1 36 ∧ Int32.ofInt (1) = (1 : Int32) := ⟨⟨vm_row tbX12_lost 21 rfl, rfl⟩, z_iconst_1⟩
theorem dX12_lost_36 : vm_at cX12_lost 36 (.istore_n 3) 1 37 ∧ ((3 : Fin 4) : Nat) = 3 := ⟨⟨vm_row tbX12_lost 22 rfl, rfl⟩, rfl⟩
theorem dX12_lost_37 : vm_at cX12_lost 37 (.iconst (-1)) 1 38 ∧ Int32.ofInt (-1) = (-1 : Int32) := ⟨⟨vm_row tbX12_lost 23 rfl, rfl⟩, z_iconst_m1⟩
theorem dX12_lost_38 : vm_at cX12_lost 38 (.istore 4) 2 40 := ⟨vm_row tbX12_lost 24 rfl, rfl⟩
theorem dX12_lost_40 : vm_at cX12_lost 40 (.iconst 1) 1 41 ∧ Int32.ofInt (1) = (1 : Int32) := ⟨⟨vm_row tbX12_lost 25 rfl, rfl⟩, z_iconst_1⟩
theorem dX12_lost_41 : vm_at cX12_lost 41 (.istore 5) 2 43 := ⟨vm_row tbX12_lost 26 rfl, rfl⟩
theorem dX12_lost_43 : vm_at cX12_lost 43 (.iload 5) 2 45 := ⟨vm_row tbX12_lost 27 rfl, rfl⟩
theorem dX12_lost_45 : vm_at cX12_lost 45 (.iconst 5) 1 46 ∧ Int32.ofInt (5) = (5 : Int32) := ⟨⟨vm_row tbX12_lost 28 rfl, rfl⟩, z_iconst_5⟩
theorem dX12_lost_46 : vm_br cX12_lost 46 (.if_icmp .ge 66) 3 49 (66) 112 := ⟨vm_row tbX12_lost 29 rfl, rfl, rfl⟩
theorem dX12_lost_49 : vm_at cX12_lost 49 (.iload 4) 2 51 := ⟨vm_row tbX12_lost 30 rfl, rfl⟩
theorem dX12_lost_51 : vm_at cX12_lost 51 (.iconst (-1)) 1 52 ∧ Int32.ofInt (-1) = (-1 : Int32) := ⟨⟨vm_row tbX12_lost 31 rfl, rfl⟩, z_iconst_m1⟩
theorem dX12_lost_52 : vm_br cX12_lost 52 (.if_icmp .ne 60) 3 55 (60) 112 := ⟨vm_row tbX12_lost 32 rfl, rfl, rfl⟩
theorem dX12_lost_55 : vm_at cX12_lost 55 (.iload_n 3) 1 56 ∧ ((3 : Fin 4) : Nat) = 3 := ⟨⟨vm_row tbX12_lost 33 rfl, rfl⟩, rfl⟩
theorem dX12_lost_56 : vm_at cX12_lost 56 (.aload_n 0) 1 57 ∧ ((0 : Fin 4) : Nat) = 0 := ⟨⟨vm_row tbX12_lost 34 rfl, rfl⟩, rfl⟩
theorem dX12_lost_57 : vm_at cX12_lost 57 (.getfield 182) 3 60 := ⟨vm_row tbX12_lost 35 rfl, rfl⟩
theorem dX12_lost_60 : vm_at cX12_lost 60 (.iconst 1) 1 61 ∧ Int32.ofInt (1) = (1 : Int32) := ⟨⟨vm_row tbX12_lost 36 rfl, rfl⟩, z_iconst_1⟩
theorem dX12_lost_61 : vm_at cX12_lost 61 (.iadd) 1 62 := ⟨vm_row tbX12_lost 37 rfl, rfl⟩
theorem dX12_lost_62 : vm_at cX12_lost 62 (.imul) 1 63 := ⟨vm_row tbX12_lost 38 rfl, rfl⟩
theorem dX12_lost_63 : vm_at cX12_lost 63 (.istore_n 3) 1 64 ∧ ((3 : Fin 4) : Nat) = 3 := ⟨⟨vm_row tbX12_lost 39 rfl, rfl⟩, rfl⟩
theorem dX12_lost_64 : vm_at cX12_lost 64 (.iconst 0) 1 65 ∧ Int32.ofInt (0) = (0 : Int32) := ⟨⟨vm_row tbX12_lost 40 rfl, rfl⟩, z_iconst_0⟩
theorem dX12_lost_65 : vm_at cX12_lost 65 (.istore 6) 2 67 := ⟨vm_row tbX12_lost 41 rfl, rfl⟩
theorem dX12_lost_67 : vm_at cX12_lost 67 (.iload 6) 2 69 := ⟨vm_row tbX12_lost 42 rfl, rfl⟩
theorem dX12_lost_69 : vm_at cX12_lost 69 (.iload_n 3) 1 70 ∧ ((3 : Fin 4) : Nat) = 3 := ⟨⟨vm_row tbX12_lost 43 rfl, rfl⟩, rfl⟩
theorem dX12_lost_70 : vm_br cX12_lost 70 (.if_icmp .ge 36) 3 73 (36) 106 := ⟨vm_row tbX12_lost 44 rfl, rfl, rfl⟩
theorem dX12_lost_73 : vm_at cX12_lost 73 (.iload 4) 2 75 := ⟨vm_row tbX12_lost 45 rfl, rfl⟩
theorem dX12_lost_75 : vm_at cX12_lost 75 (.iconst (-1)) 1 76 ∧ Int32.ofInt (-1) = (-1 : Int32) := ⟨⟨vm_row tbX12_lost 46 rfl, rfl⟩, z_iconst_m1⟩
theorem dX12_lost_76 : vm_br cX12_lost 76 (.if_icmp .ne 30) 3 79 (30) 106 := ⟨vm_row tbX12_lost 47 rfl, rfl, rfl⟩
theorem dX12_lost_79 : vm_at cX12_lost 79 (.aload_n 0) 1 80 ∧ ((0 : Fin 4) : Nat) = 0 := ⟨⟨vm_row tbX12_lost 48 rfl, rfl⟩, rfl⟩
theorem dX12_lost_80 : vm_at cX12_lost 80 (.iload 6) 2 82 := ⟨vm_row tbX12_lost 49 rfl, rfl⟩
theorem dX12_lost_82 : vm_at cX12_lost 82 (.iload 5) 2 84 := ⟨vm_row tbX12_lost 50 rfl, rfl⟩
theorem dX12_lost_84 : vm_at cX12_lost 84 (.iload_n 1) 1 85 ∧ ((1 : Fin 4) : Nat) = 1 := ⟨⟨vm_row tbX12_lost 51 rfl, rfl⟩, rfl⟩
theorem dX12_lost_85 : vm_at cX12_lost 85 (.iload_n 2) 1 86 ∧ ((2 : Fin 4) : Nat) = 2 := ⟨⟨vm_row tbX12_lost 52 rfl, rfl⟩, rfl⟩
theorem dX12_lost_86 : vm_at cX12_lost 86 (.invokevirtual 288) 3 89 := ⟨vm_row tbX12_lost 53 rfl, rfl⟩
theorem dX12_lost_89 : vm_br cX12_lost 89 (.ifCond .eq 8) 3 92 (8) 97 := ⟨vm_row tbX12_lost 54 rfl, rfl, rfl⟩
theorem dX12_lost_92 : vm_at cX12_lost 92 (.iload 5) 2 94 := ⟨vm_row tbX12_lost 55 rfl, rfl⟩
theorem dX12_lost_94 : vm_br cX12_lost 94 (.goto 4) 3 97 (4) 98 := ⟨vm_row tbX12_lost 56 rfl, rfl, rfl⟩
theorem dX12_lost_97 : vm_at cX12_lost 97 (.iconst (-1)) 1 98 ∧ Int32.ofInt (-1) = (-1 : Int32) := ⟨⟨vm_row tbX12_lost 57 rfl, rfl⟩, z_iconst_m1⟩
theorem dX12_lost_98 : vm_at cX12_lost 98 (.istore 4) 2 100 := ⟨vm_row tbX12_lost 58 rfl, rfl⟩
theorem dX12_lost_100 : vm_at cX12_lost 100 (.iinc 6 1) 3 103 ∧ Int32.ofInt (1) = (1 : Int32) := ⟨⟨vm_row tbX12_lost 59 rfl, rfl⟩, z_iconst_1⟩
theorem dX12_lost_103 : vm_br cX12_lost 103 (.goto (-36)) 3 106 (-36) 67 := ⟨vm_row tbX12_lost 60 rfl, rfl, rfl⟩
theorem dX12_lost_106 : vm_at cX12_lost 106 (.iinc 5 1) 3 109 ∧ Int32.ofInt (1) = (1 : Int32) := ⟨⟨vm_row tbX12_lost 61 rfl, rfl⟩, z_iconst_1⟩
theorem dX12_lost_109 : vm_br cX12_lost 109 (.goto (-66)) 3 112 (-66) 43 := ⟨vm_row tbX12_lost 62 rfl, rfl, rfl⟩
theorem dX12_lost_112 : vm_at cX12_lost 112 (.aload_n 0) 1 113 ∧ ((0 : Fin 4) : Nat) = 0 := ⟨⟨vm_row tbX12_lost 63 rfl, rfl⟩, rfl⟩
theorem dX12_lost_113 : vm_at cX12_lost 113 (.iload_n 2) 1 114 ∧ ((2 : Fin 4) : Nat) = 2 := ⟨⟨vm_row tbX12_lost 64 rfl, rfl⟩, rfl⟩
theorem dX12_lost_114 : vm_at cX12_lost 114 (.invokevirtual 223) 3 117 := ⟨vm_row tbX12_lost 65 rfl, rfl⟩
theorem dX12_lost_117 : vm_at cX12_lost 117 (.iload 4) 2 119 := ⟨vm_row tbX12_lost 66 rfl, rfl⟩
theorem dX12_lost_119 : vm_at cX12_lost 119 (.ireturn) 1 120 := ⟨vm_row tbX12_lost 67 rfl, rfl⟩
def tlX12_layGame : List (Nat × Instr × Nat) := [(0, .iconst 0, 1), (1, .istore_n 3, 1), (2, .iload_n 3, 1), (3, .aload_n 0, 1), (4, .invokevirtual 233, 3), (7, .if_icmp .ge 16, 3), (10, .aload_n 0, 1), (11, .getfield 44, 3), (14, .iload_n 3, 1), (15, .iconst 0, 1), (16, .iastore, 1), (17, .iinc 3 1, 3), (20, .goto (-18), 3), (23, .iconst 0, 1), (24, .istore_n 3, 1), (25, .iload_n 3, 1), (26, .iload_n 2, 1), (27, .if_icmp .ge 142, 3), (30, .iconst 0, 1), (31, .istore 4, 2), (33, .iload 4, 2), (35, .aload_n 0, 1), (36, .invokevirtual 233, 3), (39, .if_icmp .ge 23, 3), (42, .aload_n 0, 1), (43, .getfield 47, 3), (46, .iload 4, 2), (48, .aload_n 0, 1), (49, .getfield 44, 3), (52, .iload 4, 2), (54, .iaload, 1), (55, .iastore, 1), (56, .iinc 4 1, 3), (59, .goto (-26), 3), (62, .iconst 0, 1), (63, .istore 4, 2), (65, .iload 4, 2), (67, .aload_n 0, 1), (68, .invokevirtual 233, 3), (71, .if_icmp .ge 92, 3), (74, .aload_n 0, 1), (75, .getfield 44, 3), (78, .iload 4, 2), (80, .iconst (-1), 1), (81, .iastore, 1), (82, .iconst 0, 1), (83, .istore 5, 2), (85, .iload 5, 2), (87, .aload_n 0, 1), (88, .getfield 182, 3), (91, .if_icmp .ge 66, 3), (94, .aload_n 0, 1), (95, .getfield 44, 3), (98, .iload 4, 2), (100, .iaload, 1), (101, .iconst 1, 1), (102, .if_icmp .ge 55, 3), (105, .aload_n 0, 1), (106, .aload_n 0, 1), (107, .iload 4, 2), (109, .iload 5, 2), (111, .invokevirtual 239, 3), (114, .iload_n 1, 1), (115, .invokevirtual 292, 3), (118, .istore 6, 2), (120, .aload_n 0, 1), (121, .getfield 44, 3), (124, .iload 4, 2), (126, .iload 6, 2), (128, .aload_n 0, 1), (129, .getfield 44, 3), (132, .iload 4, 2), (134, .iaload, 1), (135, .if_icmp .le 8, 3), (138, .iload 6, 2), (140, .goto 10, 3), (143, .aload_n 0, 1), (144, .getfield 44, 3), (147, .iload 4, 2), (149, .iaload, 1), (150, .iastore, 1), (151, .iinc 5 1, 3), (154, .goto (-69), 3), (157, .iinc 4 1, 3), (160, .goto (-95), 3), (163, .iinc 3 1, 3), (166, .goto (-141), 3), (169, .return_, 1)]
theorem tbX12_layGame : vm_chk cX12_layGame tlX12_layGame = true := by decide +kernel
theorem dX12_layGame_0 : vm_at cX12_layGame 0 (.iconst 0) 1 1 ∧ Int32.ofInt (0) = (0 : Int32) := ⟨⟨vm_row tbX12_layGame 0 rfl, rfl⟩, z_iconst_0⟩
theorem dX12_layGame_1 : vm_at cX12_layGame 1 (.istore_n 3) 1 2 ∧ ((3 : Fin 4) : Nat) = 3 := ⟨⟨vm_row tbX12_layGame 1 rfl, rfl⟩, rfl⟩
theorem dX12_layGame_2 : vm_at cX12_layGame 2 (.iload_n 3) 1 3 ∧ ((3 : Fin 4) : Nat) = 3 := ⟨⟨vm_row tbX12_layGame 2 rfl, rfl⟩, rfl⟩
theorem dX12_layGame_3 : vm_at cX12_layGame 3 (.aload_n 0) 1 4 ∧ ((0 : Fin 4) : Nat) = 0 := ⟨⟨vm_row tbX12_layGame 3 rfl, rfl⟩, rfl⟩
theorem dX12_layGame_4 : vm_at cX12_layGame 4 (.invokevirtual 233) 3 7 := ⟨vm_row tbX12_layGame 4 rfl, rfl⟩
theorem dX12_layGame_7 : vm_br cX12_layGame 7 (.if_icmp .ge 16) 3 10 (16) 23 := ⟨vm_row tbX12_layGame 5 rfl, rfl, rfl⟩
theorem dX12_layGame_10 : vm_at cX12_layGame 10 (.aload_n 0) 1 11 ∧ ((0 : Fin 4) : Nat) = 0 := ⟨⟨vm_row tbX12_layGame 6 rfl, rfl⟩, rfl⟩
theorem dX12_layGame_11 : vm_at cX12_layGame 11 (.getfield 44) 3 14 := ⟨vm_row tbX12_layGame 7 rfl, rfl⟩
theorem dX12_layGame_14 : vm_at cX12_layGame 14 (.iload_n 3) 1 15 ∧ ((3 : Fin 4) : Nat) = 3 := ⟨⟨vm_row tbX12_layGame 8 rfl, rfl⟩, rfl⟩
theorem dX12_layGame_15 : vm_at cX12_layGame 15 (.iconst 0) 1 16 ∧ Int32.ofInt (0) = (0 : Int32) := ⟨⟨vm_row tbX12_layGame 9 rfl, rfl⟩, z_iconst_0⟩
theorem dX12_layGame_16 : vm_at cX12_layGame 16 (.iastore) 1 17 := ⟨vm_row tbX12_layGame 10 rfl, rfl⟩
theorem dX12_layGame_17 : vm_at cX12_layGame 17 (.iinc 3 1) 3 20 ∧ Int32.ofInt (1) = (1 : Int32) := ⟨⟨vm_row tbX12_layGame 11 rfl, rfl⟩, z_iconst_1⟩
theorem dX12_layGame_20 : vm_br cX12_layGame 20 (.goto (-18)) 3 23 (-18) 2 := ⟨vm_row tbX12_layGame 12 rfl, rfl, rfl⟩
theorem dX12_layGame_23 : vm_at cX12_layGame 23 (.iconst 0) 1 24 ∧ Int32.ofInt (0) = (0 : Int32) := ⟨⟨vm_row tbX12_layGame 13 rfl, rfl⟩, z_iconst_0⟩
theorem dX12_layGame_24 : vm_at cX12_layGame 24 (.istore_n 3) 1 25 ∧ ((3 : Fin 4) : Nat) = 3 := ⟨⟨vm_row tbX12_layGame 14 rfl, rfl⟩, rfl⟩
theorem dX12_layGame_25 : vm_at cX12_layGame 25 (.iload_n 3) 1 26 ∧ ((3 : Fin 4) : Nat) = 3 := ⟨⟨vm_row tbX12_layGame 15 rfl, rfl⟩, rfl⟩
theorem dX12_layGame_26 : vm_at cX12_layGame 26 (.iload_n 2) 1 27 ∧ ((2 : Fin 4) : Nat) = 2 := ⟨⟨vm_row tbX12_layGame 16 rfl, rfl⟩, rfl⟩
theorem dX12_layGame_27 : vm_br cX12_layGame 27 (.if_icmp .ge 142) 3 30 (142) 169 := ⟨vm_row tbX12_layGame 17 rfl, rfl, rfl⟩
theorem dX12_layGame_30 : vm_at cX12_layGame 30 (.iconst 0) 1 31 ∧ Int32.ofInt (0) = (0 : Int32) := ⟨⟨vm_row tbX12_layGame 18 rfl, rfl⟩, z_iconst_0⟩
theorem dX12_layGame_31 : vm_at cX12_layGame 31 (.istore 4) 2 33 := ⟨vm_row tbX12_layGame 19 rfl, rfl⟩
theorem dX12_layGame_33 : vm_at cX12_layGame 33 (.iload 4) 2 35 := ⟨vm_row tbX12_layGame 20 rfl, rfl⟩
theorem dX12_layGame_35 : vm_at cX12_layGame 35 (.aload_n 0) 1 36 ∧ ((0 : Fin 4) : Nat) = 0 := ⟨⟨vm_row tbX12_layGame 21 rfl, rfl⟩, rfl⟩
theorem dX12_layGame_36 : vm_at cX12_layGame 36 (.invokevirtual 233) 3 39 := ⟨vm_row tbX12_layGame 22 rfl, rfl⟩
theorem dX12_layGame_39 : vm_br cX12_layGame 39 (.if_icmp .ge 23) 3 42 (23) 62 := ⟨vm_row tbX12_layGame 23 rfl, rfl, rfl⟩
theorem dX12_layGame_42 : vm_at cX12_layGame 42 (.aload_n 0) 1 43 ∧ ((0 : Fin 4) : Nat) = 0 := ⟨⟨vm_row tbX12_layGame 24 rfl, rfl⟩, rfl⟩
theorem dX12_layGame_43 : vm_at cX12_layGame 43 (.getfield 47) 3 46 := ⟨vm_row tbX12_layGame 25 rfl, rfl⟩
theorem dX12_layGame_46 : vm_at cX12_layGame 46 (.iload 4) 2 48 := ⟨vm_row tbX12_layGame 26 rfl, rfl⟩
theorem dX12_layGame_48 : vm_at cX12_layGame 48 (.aload_n 0) 1 49 ∧ ((0 : Fin 4) : Nat) = 0 := ⟨⟨vm_row tbX12_layGame 27 rfl, rfl⟩, rfl⟩
theorem dX12_layGame_49 : vm_at cX12_layGame 49 (.getfield 44) 3 52 := ⟨vm_row tbX12_layGame 28 rfl, rfl⟩
theorem dX12_layGame_52 : vm_at cX12_layGame 52 (.iload 4) 2 54 := ⟨vm_row tbX12_layGame 29 rfl, rfl⟩
theorem dX12_layGame_54 : vm_at cX12_layGame 54 (.iaload) 1 55 := ⟨vm_row tbX12_layGame 30 rfl, rfl⟩
theorem dX12_layGame_55 : vm_at cX12_layGame 55 (.iastore) 1 56 := ⟨vm_row tbX12_layGame 31 rfl, rfl⟩
theorem dX12_layGame_56 : vm_at cX12_layGame 56 (.iinc 4 1) 3 59 ∧ Int32.ofInt (1) = (1 : Int32) := ⟨⟨vm_row tbX12_layGame 32 rfl, rfl⟩, z_iconst_1⟩
theorem dX12_layGame_59 : vm_br cX12_layGame 59 (.goto (-26)) 3 62 (-26) 33 := ⟨vm_row tbX12_layGame 33 rfl, rfl, rfl⟩
theorem dX12_layGame_62 : vm_at cX12_layGame 62 (.iconst 0) 1 63 ∧ Int32.ofInt (0) = (0 : Int32) := ⟨⟨vm_row tbX12_layGame 34 rfl, rfl⟩, z_iconst_0⟩
theorem dX12_layGame_63 : vm_at cX12_layGame 63 (.istore 4) 2 65 := ⟨vm_row tbX12_layGame 35 rfl, rfl⟩
theorem dX12_layGame_65 : vm_at cX12_layGame 65 (.iload 4) 2 67 := ⟨vm_row tbX12_layGame 36 rfl, rfl⟩
theorem dX12_layGame_67 : vm_at cX12_layGame 67 (.aload_n 0) 1 68 ∧ ((0 : Fin 4) : Nat) = 0 := ⟨⟨vm_row tbX12_layGame 37 rfl, rfl⟩, rfl⟩
theorem dX12_layGame_68 : vm_at cX12_layGame 68 (.invokevirtual 233) 3 71 := ⟨vm_row tbX12_layGame 38 rfl, rfl⟩
theorem dX12_layGame_71 : vm_br cX12_layGame 71 (.if_icmp .ge 92) 3 74 (92) 163 := ⟨vm_row tbX12_layGame 39 rfl, rfl, rfl⟩
theorem dX12_layGame_74 : vm_at cX12_layGame 74 (.aload_n 0) 1 75 ∧ ((0 : Fin 4) : Nat) = 0 := ⟨⟨vm_row tbX12_layGame 40 rfl, rfl⟩, rfl⟩
theorem dX12_layGame_75 : vm_at cX12_layGame 75 (.getfield 44) 3 78 := ⟨vm_row tbX12_layGame 41 rfl, rfl⟩
theorem dX12_layGame_78 : vm_at cX12_layGame 78 (.iload 4) 2 80 := ⟨vm_row tbX12_layGame 42 rfl, rfl⟩
theorem dX12_layGame_80 : vm_at cX12_layGame 80 (.iconst (-1)) 1 81 ∧ Int32.ofInt (-1) = (-1 : Int32) := ⟨⟨vm_row tbX12_layGame 43 rfl, rfl⟩, z_iconst_m1⟩
theorem dX12_layGame_81 : vm_at cX12_layGame 81 (.iastore) 1 82 := ⟨vm_row tbX12_layGame 44 rfl, rfl⟩
theorem dX12_layGame_82 : vm_at cX12_layGame 82 (.iconst 0) 1 83 ∧ Int32.ofInt (0) = (0 : Int32) := ⟨⟨vm_row tbX12_layGame 45 rfl, rfl⟩, z_iconst_0⟩
theorem dX12_layGame_83 : vm_at cX12_layGame 83 (.istore 5) 2 85 := ⟨vm_row tbX12_layGame 46 rfl, rfl⟩
theorem dX12_layGame_85 : vm_at cX12_layGame 85 (.iload 5) 2 87 := ⟨vm_row tbX12_layGame 47 rfl, rfl⟩
theorem dX12_layGame_87 : vm_at cX12_layGame 87 (.aload_n 0) 1 88 ∧ ((0 : Fin 4) : Nat) = 0 := ⟨⟨vm_row tbX12_layGame 48 rfl, rfl⟩, rfl⟩
theorem dX12_layGame_88 : vm_at cX12_layGame 88 (.getfield 182) 3 91 := ⟨vm_row tbX12_layGame 49 rfl, rfl⟩
theorem dX12_layGame_91 : vm_br cX12_layGame 91 (.if_icmp .ge 66) 3 94 (66) 157 := ⟨vm_row tbX12_layGame 50 rfl, rfl, rfl⟩
theorem dX12_layGame_94 : vm_at cX12_layGame 94 (.aload_n 0) 1 95 ∧ ((0 : Fin 4) : Nat) = 0 := ⟨⟨vm_row tbX12_layGame 51 rfl, rfl⟩, rfl⟩
theorem dX12_layGame_95 : vm_at cX12_layGame 95 (.getfield 44) 3 98 := ⟨vm_row tbX12_layGame 52 rfl, rfl⟩
theorem dX12_layGame_98 : vm_at cX12_layGame 98 (.iload 4) 2 100 := ⟨vm_row tbX12_layGame 53 rfl, rfl⟩
theorem dX12_layGame_100 : vm_at cX12_layGame 100 (.iaload) 1 101 := ⟨vm_row tbX12_layGame 54 rfl, rfl⟩
theorem dX12_layGame_101 : vm_at cX12_layGame 101 (.iconst 1) 1 102 ∧ Int32.ofInt (1) = (1 : Int32) := ⟨⟨vm_row tbX12_layGame 55 rfl, rfl⟩, z_iconst_1⟩
theorem dX12_layGame_102 : vm_br cX12_layGame 102 (.if_icmp .ge 55) 3 105 (55) 157 := ⟨vm_row tbX12_layGame 56 rfl, rfl, rfl⟩
theorem dX12_layGame_105 : vm_at cX12_layGame 105 (.aload_n 0) 1 106 ∧ ((0 : Fin 4) : Nat) = 0 := ⟨⟨vm_row tbX12_layGame 57 rfl, rfl⟩, rfl⟩
theorem dX12_layGame_106 : vm_at cX12_layGame 106 (.aload_n 0) 1 107 ∧ ((0 : Fin 4) : Nat) = 0 := ⟨⟨vm_row tbX12_layGame 58 rfl, rfl⟩, rfl⟩
theorem dX12_layGame_107 : vm_at cX12_layGame 107 (.iload 4) 2 109 := ⟨vm_row tbX12_layGame 59 rfl, rfl⟩
theorem dX12_layGame_109 : vm_at cX12_layGame 109 (.iload 5) 2 111 := ⟨vm_row tbX12_layGame 60 rfl, rfl⟩
theorem dX12_layGame_111 : vm_at cX12_layGame 111 (.invokevirtual 239) 3 114 := ⟨vm_row tbX12_layGame 61 rfl, rfl⟩
theorem dX12_layGame_114 : vm_at cX12_layGame 114 (.iload_n 1) 1 115 ∧ ((1 : Fin 4) : Nat) = 1 := ⟨⟨vm_row tbX12_layGame 62 rfl, rfl⟩, rfl⟩
theorem dX12_layGame_115 : vm_at cX12_layGame 115 (.invokevirtual 292) 3 118 := ⟨vm_row tbX12_layGame 63 rfl, rfl⟩
theorem dX12_layGame_118 : vm_at cX12_layGame 118 (.istore 6) 2 120 := ⟨vm_row tbX12_layGame 64 rfl, rfl⟩
theorem dX12_layGame_120 : vm_at cX12_layGame 120 (.aload_n 0) 1 121 ∧ ((0 : Fin 4) : Nat) = 0 := ⟨⟨vm_row tbX12_layGame 65 rfl, rfl⟩, rfl⟩
theorem dX12_layGame_121 : vm_at cX12_layGame 121 (.getfield 44) 3 124 := ⟨vm_row tbX12_layGame 66 rfl, rfl⟩
theorem dX12_layGame_124 : vm_at cX12_layGame 124 (.iload 4) 2 126 := ⟨vm_row tbX12_layGame 67 rfl, rfl⟩
theorem dX12_layGame_126 : vm_at cX12_layGame 126 (.iload 6) 2 128 := ⟨vm_row tbX12_layGame 68 rfl, rfl⟩
theorem dX12_layGame_128 : vm_at cX12_layGame 128 (.aload_n 0) 1 129 ∧ ((0 : Fin 4) : Nat) = 0 := ⟨⟨vm_row tbX12_layGame 69 rfl, rfl⟩, rfl⟩
theorem dX12_layGame_129 : vm_at cX12_layGame 129 (.getfield 44) 3 132 := ⟨vm_row tbX12_layGame 70 rfl, rfl⟩
theorem dX12_layGame_132 : vm_at cX12_layGame 132 (.iload 4) 2 134 := ⟨vm_row tbX12_layGame 71 rfl, rfl⟩
theorem dX12_layGame_134 : vm_at cX12_layGame 134 (.iaload) 1 135 := ⟨vm_row tbX12_layGame 72 rfl, rfl⟩
theorem dX12_layGame_135 : vm_br cX12_layGame 135 (.if_icmp .le 8) 3 138 (8) 143 := ⟨vm_row tbX12_layGame 73 rfl, rfl, rfl⟩
theorem dX12_layGame_138 : vm_at cX12_layGame 138 (.iload 6) 2 140 := ⟨vm_row tbX12_layGame 74 rfl, rfl⟩
theorem dX12_layGame_140 : vm_br cX12_layGame 140 (.goto 10) 3 143 (10) 150 := ⟨vm_row tbX12_layGame 75 rfl, rfl, rfl⟩
theorem dX12_layGame_143 : vm_at cX12_layGame 143 (.aload_n 0) 1 144 ∧ ((0 : Fin 4) : Nat) = 0 := ⟨⟨vm_row tbX12_layGame 76 rfl, rfl⟩, rfl⟩
theorem dX12_layGame_144 : vm_at cX12_layGame 144 (.getfield 44) 3 147 := ⟨vm_row tbX12_layGame 77 rfl, rfl⟩
theorem dX12_layGame_147 : vm_at cX12_layGame 147 (.iload 4) 2 149 := ⟨vm_row tbX12_layGame 78 rfl, rfl⟩
theorem dX12_layGame_149 : vm_at cX12_layGame 149 (.iaload) 1 150 := ⟨vm_row tbX12_layGame 79 rfl, rfl⟩
theorem dX12_layGame_150 : vm_at cX12_layGame 150 (.iastore) 1 151 := ⟨vm_row tbX12_layGame 80 rfl, rfl⟩
theorem dX12_layGame_151 : vm_at cX12_layGame 151 (.iinc 5 1) 3 154 ∧ Int32.ofInt (1) = (1 : Int32) := ⟨⟨vm_row tbX12_layGame 81 rfl, rfl⟩, z_iconst_1⟩
theorem dX12_layGame_154 : vm_br cX12_layGame 154 (.goto (-69)) 3 157 (-69) 85 := ⟨vm_row tbX12_layGame 82 rfl, rfl, rfl⟩
theorem dX12_layGame_157 : vm_at cX12_layGame 157 (.iinc 4 1) 3 160 ∧ Int32.ofInt (1) = (1 : Int32) := ⟨⟨vm_row tbX12_layGame 83 rfl, rfl⟩, z_iconst_1⟩
theorem dX12_layGame_160 : vm_br cX12_layGame 160 (.goto (-95)) 3 163 (-95) 65 := ⟨vm_row tbX12_layGame 84 rfl, rfl, rfl⟩
theorem dX12_layGame_163 : vm_at cX12_layGame 163 (.iinc 3 1) 3 166 ∧ Int32.ofInt (1) = (1 : Int32) := ⟨⟨vm_row tbX12_layGame 85 rfl, rfl⟩, z_iconst_1⟩
theorem dX12_layGame_166 : vm_br cX12_layGame 166 (.goto (-141)) 3 169 (-141) 25 := ⟨vm_row tbX12_layGame 86 rfl, rfl, rfl⟩
theorem dX12_layGame_169 : vm_at cX12_layGame 169 (.return_) 1 170 := ⟨vm_row tbX12_layGame 87 rfl, rfl⟩
def tlX12_worth : List (Nat × Instr × Nat) := [(0, .aload_n 0, 1), (1, .iload_n 1, 1), (2, .invokevirtual 236, 3), (5, .iload_n 2, 1), (6, .if_icmp .ne 7, 3), (9, .iconst 1, 1), (10, .goto 10, 3), (13, .aload_n 0, 1), (14, .getfield 47, 3), (17, .iload_n 1, 1), (18, .iaload, 1), (19, .ineg, 1), (20, .ireturn, 1)]
theorem tbX12_worth : vm_chk cX12_worth tlX12_worth = true := by decide +kernel
theorem dX12_worth_0 : vm_at cX12_worth 0 (.aload_n 0) 1 1 ∧ ((0 : Fin 4) : Nat) = 0 := ⟨⟨vm_row tbX12_worth 0 rfl, rfl⟩, rfl⟩
theorem dX12_worth_1 : vm_at cX12_worth 1 (.iload_n 1) 1 2 ∧ ((1 : Fin 4) : Nat) = 1 := ⟨⟨vm_row tbX12_worth 1 rfl, rfl⟩, rfl⟩
theorem dX12_worth_2 : vm_at cX12_worth 2 (.invokevirtual 236) 3 5 := ⟨vm_row tbX12_worth 2 rfl, rfl⟩
theorem dX12_worth_5 : vm_at cX12_worth 5 (.iload_n 2) 1 6 ∧ ((2 : Fin 4) : Nat) = 2 := ⟨⟨vm_row tbX12_worth 3 rfl, rfl⟩, rfl⟩
theorem dX12_worth_6 : vm_br cX12_worth 6 (.if_icmp .ne 7) 3 9 (7) 13 := ⟨vm_row tbX12_worth 4 rfl, rfl, rfl⟩
theorem dX12_worth_9 : vm_at cX12_worth 9 (.iconst 1) 1 10 ∧ Int32.ofInt (1) = (1 : Int32) := ⟨⟨vm_row tbX12_worth 5 rfl, rfl⟩, z_iconst_1⟩
theorem dX12_worth_10 : vm_br cX12_worth 10 (.goto 10) 3 13 (10) 20 := ⟨vm_row tbX12_worth 6 rfl, rfl, rfl⟩
theorem dX12_worth_13 : vm_at cX12_worth 13 (.aload_n 0) 1 14 ∧ ((0 : Fin 4) : Nat) = 0 := ⟨⟨vm_row tbX12_worth 7 rfl, rfl⟩, rfl⟩
theorem dX12_worth_14 : vm_at cX12_worth 14 (.getfield 47) 3 17 := ⟨vm_row tbX12_worth 8 rfl, rfl⟩
theorem dX12_worth_17 : vm_at cX12_worth 17 (.iload_n 1) 1 18 ∧ ((1 : Fin 4) : Nat) = 1 := ⟨⟨vm_row tbX12_worth 9 rfl, rfl⟩, rfl⟩
theorem dX12_worth_18 : vm_at cX12_worth 18 (.iaload) 1 19 := ⟨vm_row tbX12_worth 10 rfl, rfl⟩
theorem dX12_worth_19 : vm_at cX12_worth 19 (.ineg) 1 20 := ⟨vm_row tbX12_worth 11 rfl, rfl⟩
theorem dX12_worth_20 : vm_at cX12_worth 20 (.ireturn) 1 21 := ⟨vm_row tbX12_worth 12 rfl, rfl⟩
def tlX12_game : List (Nat × Instr × Nat) := [(0, .aload_n 0, 1), (1, .iload_n 1, 1), (2, .invokevirtual 243, 3), (5, .ifCond .eq 22, 3), (8, .iload_n 2, 1), (9, .iconst 0, 1), (10, .bipush 6, 2), (12, .invokestatic 68, 3), (15, .ifCond .eq 12, 3), (18, .iload_n 3, 1), (19, .iconst 0, 1), (20, .iconst 1, 1), (21, .invokestatic 68, 3), (24, .ifCond .ne 6, 3), (27, .ldc 72, 2), (29, .ireturn, 1), (30, .iload_n 2, 1), (31, .ifCond .eq 10, 3), (34, .aload_n 0, 1), (35, .getfield 182, 3), (38, .ifCond .ne 13, 3), (41, .iload_n 3, 1), (42, .ifCond .ne 7, 3), (45, .iconst 0, 1), (46, .goto 4, 3), (49, .iconst (-1), 1), (50, .ireturn, 1), (51, .aload_n 0, 1), (52, .invokevirtual 229, 3), (55, .istore 4, 2), (57, .aload_n 0, 1), (58, .iload_n 1, 1), (59, .iload_n 2, 1), (60, .invokevirtual 295, 3), (63, .aload_n 0, 1), (64, .getfield 44, 3), (67, .iload 4, 2), (69, .iaload, 1), (70, .istore 5, 2), (72, .iconst (-1), 1), (73, .istore 6, 2), (75, .aload_n 0, 1), (76, .getfield 182, 3), (79, .iconst 1, 1), (80, .isub, 1), (81, .istore 7, 2), (83, .iload 7, 2), (85, .ifCond .lt 36, 3), (88, .aload_n 0, 1), (89, .aload_n 0, 1), (90, .iload 4, 2), (92, .iload 7, 2), (94, .invokevirtual 239, 3), (97, .iload_n 1, 1), (98, .invokevirtual 292, 3), (101, .iload 5, 2), (103, .if_icmp .ne 8, 3), (106, .iload 7, 2), (108, .goto 5, 3), (111, .iload 6, 2), (113, .istore 6, 2), (115, .iinc 7 (-1), 3), (118, .goto (-35), 3), (121, .aload_n 0, 1), (122, .iload 4, 2), (124, .invokevirtual 223, 3), (127, .iload_n 3, 1), (128, .ifCond .ne 8, 3), (131, .iload 5, 2), (133, .goto 5, 3), (136, .iload 6, 2), (138, .ireturn, 1)]
theorem tbX12_game : vm_chk cX12_game tlX12_game = true := by decide +kernel
theorem dX12_game_0 : vm_at cX12_game 0 (.aload_n 0) 1 1 ∧ ((0 : Fin 4) : Nat) = 0 := ⟨⟨vm_row tbX12_game 0 rfl, rfl⟩, rfl⟩
theorem dX12_game_1 : vm_at cX12_game 1 (.iload_n 1) 1 2 ∧ ((1 : Fin 4) : Nat) = 1 := ⟨⟨vm_row tbX12_game 1 rfl, rfl⟩, rfl⟩
theorem dX12_game_2 : vm_at cX12_game 2 (.invokevirtual 243) 3 5 := ⟨vm_row tbX12_game 2 rfl, rfl⟩
theorem dX12_game_5 : vm_br cX12_game 5 (.ifCond .eq 22) 3 8 (22) 27 := ⟨vm_row tbX12_game 3 rfl, rfl, rfl⟩
theorem dX12_game_8 : vm_at cX12_game 8 (.iload_n 2) 1 9 ∧ ((2 : Fin 4) : Nat) = 2 := ⟨⟨vm_row tbX12_game 4 rfl, rfl⟩, rfl⟩
theorem dX12_game_9 : vm_at cX12_game 9 (.iconst 0) 1 10 ∧ Int32.ofInt (0) = (0 : Int32) := ⟨⟨vm_row tbX12_game 5 rfl, rfl⟩, z_iconst_0⟩
theorem dX12_game_10 : vm_at cX12_game 10 (.bipush 6) 2 12 ∧ (Int8.ofInt (6)).toInt32 = (6 : Int32) := ⟨⟨vm_row tbX12_game 6 rfl, rfl⟩, z_bipush_6⟩
theorem dX12_game_12 : vm_at cX12_game 12 (.invokestatic 68) 3 15 := ⟨vm_row tbX12_game 7 rfl, rfl⟩
theorem dX12_game_15 : vm_br cX12_game 15 (.ifCond .eq 12) 3 18 (12) 27 := ⟨vm_row tbX12_game 8 rfl, rfl, rfl⟩
theorem dX12_game_18 : vm_at cX12_game 18 (.iload_n 3) 1 19 ∧ ((3 : Fin 4) : Nat) = 3 := ⟨⟨vm_row tbX12_game 9 rfl, rfl⟩, rfl⟩
theorem dX12_game_19 : vm_at cX12_game 19 (.iconst 0) 1 20 ∧ Int32.ofInt (0) = (0 : Int32) := ⟨⟨vm_row tbX12_game 10 rfl, rfl⟩, z_iconst_0⟩
theorem dX12_game_20 : vm_at cX12_game 20 (.iconst 1) 1 21 ∧ Int32.ofInt (1) = (1 : Int32) := ⟨⟨vm_row tbX12_game 11 rfl, rfl⟩, z_iconst_1⟩
theorem dX12_game_21 : vm_at cX12_game 21 (.invokestatic 68) 3 24 := ⟨vm_row tbX12_game 12 rfl, rfl⟩
theorem dX12_game_24 : vm_br cX12_game 24 (.ifCond .ne 6) 3 27 (6) 30 := ⟨vm_row tbX12_game 13 rfl, rfl, rfl⟩
theorem dX12_game_27 : vm_at cX12_game 27 (.ldc 72) 2 29 := ⟨vm_row tbX12_game 14 rfl, rfl⟩
theorem dX12_game_29 : vm_at cX12_game 29 (.ireturn) 1 30 := ⟨vm_row tbX12_game 15 rfl, rfl⟩
theorem dX12_game_30 : vm_at cX12_game 30 (.iload_n 2) 1 31 ∧ ((2 : Fin 4) : Nat) = 2 := ⟨⟨vm_row tbX12_game 16 rfl, rfl⟩, rfl⟩
theorem dX12_game_31 : vm_br cX12_game 31 (.ifCond .eq 10) 3 34 (10) 41 := ⟨vm_row tbX12_game 17 rfl, rfl, rfl⟩
theorem dX12_game_34 : vm_at cX12_game 34 (.aload_n 0) 1 35 ∧ ((0 : Fin 4) : Nat) = 0 := ⟨⟨vm_row tbX12_game 18 rfl, rfl⟩, rfl⟩
theorem dX12_game_35 : vm_at cX12_game 35 (.getfield 182) 3 38 := ⟨vm_row tbX12_game 19 rfl, rfl⟩
theorem dX12_game_38 : vm_br cX12_game 38 (.ifCond .ne 13) 3 41 (13) 51 := ⟨vm_row tbX12_game 20 rfl, rfl, rfl⟩
theorem dX12_game_41 : vm_at cX12_game 41 (.iload_n 3) 1 42 ∧ ((3 : Fin 4) : Nat) = 3 := ⟨⟨vm_row tbX12_game 21 rfl, rfl⟩, rfl⟩
theorem dX12_game_42 : vm_br cX12_game 42 (.ifCond .ne 7) 3 45 (7) 49 := ⟨vm_row tbX12_game 22 rfl, rfl, rfl⟩
theorem dX12_game_45 : vm_at cX12_game 45 (.iconst 0) 1 46 ∧ Int32.ofInt (0) = (0 : Int32) := ⟨⟨vm_row tbX12_game 23 rfl, rfl⟩, z_iconst_0⟩
theorem dX12_game_46 : vm_br cX12_game 46 (.goto 4) 3 49 (4) 50 := ⟨vm_row tbX12_game 24 rfl, rfl, rfl⟩
theorem dX12_game_49 : vm_at cX12_game 49 (.iconst (-1)) 1 50 ∧ Int32.ofInt (-1) = (-1 : Int32) := ⟨⟨vm_row tbX12_game 25 rfl, rfl⟩, z_iconst_m1⟩
theorem dX12_game_50 : vm_at cX12_game 50 (.ireturn) 1 51 := ⟨vm_row tbX12_game 26 rfl, rfl⟩
theorem dX12_game_51 : vm_at cX12_game 51 (.aload_n 0) 1 52 ∧ ((0 : Fin 4) : Nat) = 0 := ⟨⟨vm_row tbX12_game 27 rfl, rfl⟩, rfl⟩
theorem dX12_game_52 : vm_at cX12_game 52 (.invokevirtual 229) 3 55 := ⟨vm_row tbX12_game 28 rfl, rfl⟩
theorem dX12_game_55 : vm_at cX12_game 55 (.istore 4) 2 57 := ⟨vm_row tbX12_game 29 rfl, rfl⟩
theorem dX12_game_57 : vm_at cX12_game 57 (.aload_n 0) 1 58 ∧ ((0 : Fin 4) : Nat) = 0 := ⟨⟨vm_row tbX12_game 30 rfl, rfl⟩, rfl⟩
theorem dX12_game_58 : vm_at cX12_game 58 (.iload_n 1) 1 59 ∧ ((1 : Fin 4) : Nat) = 1 := ⟨⟨vm_row tbX12_game 31 rfl, rfl⟩, rfl⟩
theorem dX12_game_59 : vm_at cX12_game 59 (.iload_n 2) 1 60 ∧ ((2 : Fin 4) : Nat) = 2 := ⟨⟨vm_row tbX12_game 32 rfl, rfl⟩, rfl⟩
theorem dX12_game_60 : vm_at cX12_game 60 (.invokevirtual 295) 3 63 := ⟨vm_row tbX12_game 33 rfl, rfl⟩
theorem dX12_game_63 : vm_at cX12_game 63 (.aload_n 0) 1 64 ∧ ((0 : Fin 4) : Nat) = 0 := ⟨⟨vm_row tbX12_game 34 rfl, rfl⟩, rfl⟩
theorem dX12_game_64 : vm_at cX12_game 64 (.getfield 44) 3 67 := ⟨vm_row tbX12_game 35 rfl, rfl⟩
theorem dX12_game_67 : vm_at cX12_game 67 (.iload 4) 2 69 := ⟨vm_row tbX12_game 36 rfl, rfl⟩
theorem dX12_game_69 : vm_at cX12_game 69 (.iaload) 1 70 := ⟨vm_row tbX12_game 37 rfl, rfl⟩
theorem dX12_game_70 : vm_at cX12_game 70 (.istore 5) 2 72 := ⟨vm_row tbX12_game 38 rfl, rfl⟩
theorem dX12_game_72 : vm_at cX12_game 72 (.iconst (-1)) 1 73 ∧ Int32.ofInt (-1) = (-1 : Int32) := ⟨⟨vm_row tbX12_game 39 rfl, rfl⟩, z_iconst_m1⟩
theorem dX12_game_73 : vm_at cX12_game 73 (.istore 6) 2 75 := ⟨vm_row tbX12_game 40 rfl, rfl⟩
theorem dX12_game_75 : vm_at cX12_game 75 (.aload_n 0) 1 76 ∧ ((0 : Fin 4) : Nat) = 0 := ⟨⟨vm_row tbX12_game 41 rfl, rfl⟩, rfl⟩
theorem dX12_game_76 : vm_at cX12_game 76 (.getfield 182) 3 79 := ⟨vm_row tbX12_game 42 rfl, rfl⟩
theorem dX12_game_79 : vm_at cX12_game 79 (.iconst 1) 1 80 ∧ Int32.ofInt (1) = (1 : Int32) := ⟨⟨vm_row tbX12_game 43 rfl, rfl⟩, z_iconst_1⟩
theorem dX12_game_80 : vm_at cX12_game 80 (.isub) 1 81 := ⟨vm_row tbX12_game 44 rfl, rfl⟩
theorem dX12_game_81 : vm_at cX12_game 81 (.istore 7) 2 83 := ⟨vm_row tbX12_game 45 rfl, rfl⟩
theorem dX12_game_83 : vm_at cX12_game 83 (.iload 7) 2 85 := ⟨vm_row tbX12_game 46 rfl, rfl⟩
theorem dX12_game_85 : vm_br cX12_game 85 (.ifCond .lt 36) 3 88 (36) 121 := ⟨vm_row tbX12_game 47 rfl, rfl, rfl⟩
theorem dX12_game_88 : vm_at cX12_game 88 (.aload_n 0) 1 89 ∧ ((0 : Fin 4) : Nat) = 0 := ⟨⟨vm_row tbX12_game 48 rfl, rfl⟩, rfl⟩
theorem dX12_game_89 : vm_at cX12_game 89 (.aload_n 0) 1 90 ∧ ((0 : Fin 4) : Nat) = 0 := ⟨⟨vm_row tbX12_game 49 rfl, rfl⟩, rfl⟩
theorem dX12_game_90 : vm_at cX12_game 90 (.iload 4) 2 92 := ⟨vm_row tbX12_game 50 rfl, rfl⟩
theorem dX12_game_92 : vm_at cX12_game 92 (.iload 7) 2 94 := ⟨vm_row tbX12_game 51 rfl, rfl⟩
theorem dX12_game_94 : vm_at cX12_game 94 (.invokevirtual 239) 3 97 := ⟨vm_row tbX12_game 52 rfl, rfl⟩
theorem dX12_game_97 : vm_at cX12_game 97 (.iload_n 1) 1 98 ∧ ((1 : Fin 4) : Nat) = 1 := ⟨⟨vm_row tbX12_game 53 rfl, rfl⟩, rfl⟩
theorem dX12_game_98 : vm_at cX12_game 98 (.invokevirtual 292) 3 101 := ⟨vm_row tbX12_game 54 rfl, rfl⟩
theorem dX12_game_101 : vm_at cX12_game 101 (.iload 5) 2 103 := ⟨vm_row tbX12_game 55 rfl, rfl⟩
theorem dX12_game_103 : vm_br cX12_game 103 (.if_icmp .ne 8) 3 106 (8) 111 := ⟨vm_row tbX12_game 56 rfl, rfl, rfl⟩
theorem dX12_game_106 : vm_at cX12_game 106 (.iload 7) 2 108 := ⟨vm_row tbX12_game 57 rfl, rfl⟩
theorem dX12_game_108 : vm_br cX12_game 108 (.goto 5) 3 111 (5) 113 := ⟨vm_row tbX12_game 58 rfl, rfl, rfl⟩
theorem dX12_game_111 : vm_at cX12_game 111 (.iload 6) 2 113 := ⟨vm_row tbX12_game 59 rfl, rfl⟩
theorem dX12_game_113 : vm_at cX12_game 113 (.istore 6) 2 115 := ⟨vm_row tbX12_game 60 rfl, rfl⟩
theorem dX12_game_115 : vm_at cX12_game 115 (.iinc 7 (-1)) 3 118 ∧ Int32.ofInt (-1) = (-1 : Int32) := ⟨⟨vm_row tbX12_game 61 rfl, rfl⟩, z_iconst_m1⟩
theorem dX12_game_118 : vm_br cX12_game 118 (.goto (-35)) 3 121 (-35) 83 := ⟨vm_row tbX12_game 62 rfl, rfl, rfl⟩
theorem dX12_game_121 : vm_at cX12_game 121 (.aload_n 0) 1 122 ∧ ((0 : Fin 4) : Nat) = 0 := ⟨⟨vm_row tbX12_game 63 rfl, rfl⟩, rfl⟩
theorem dX12_game_122 : vm_at cX12_game 122 (.iload 4) 2 124 := ⟨vm_row tbX12_game 64 rfl, rfl⟩
theorem dX12_game_124 : vm_at cX12_game 124 (.invokevirtual 223) 3 127 := ⟨vm_row tbX12_game 65 rfl, rfl⟩
theorem dX12_game_127 : vm_at cX12_game 127 (.iload_n 3) 1 128 ∧ ((3 : Fin 4) : Nat) = 3 := ⟨⟨vm_row tbX12_game 66 rfl, rfl⟩, rfl⟩
theorem dX12_game_128 : vm_br cX12_game 128 (.ifCond .ne 8) 3 131 (8) 136 := ⟨vm_row tbX12_game 67 rfl, rfl, rfl⟩
theorem dX12_game_131 : vm_at cX12_game 131 (.iload 5) 2 133 := ⟨vm_row tbX12_game 68 rfl, rfl⟩
theorem dX12_game_133 : vm_br cX12_game 133 (.goto 5) 3 136 (5) 138 := ⟨vm_row tbX12_game 69 rfl, rfl, rfl⟩
theorem dX12_game_136 : vm_at cX12_game 136 (.iload 6) 2 138 := ⟨vm_row tbX12_game 70 rfl, rfl⟩
theorem dX12_game_138 : vm_at cX12_game 138 (.ireturn) 1 139 := ⟨vm_row tbX12_game 71 rfl, rfl⟩
def tlX12_write : List (Nat × Instr × Nat) := [(0, .iload_n 1, 1), (1, .iconst 0, 1), (2, .aload_n 0, 1), (3, .getfield 182, 3), (6, .iconst 1, 1), (7, .isub, 1), (8, .invokestatic 68, 3), (11, .ifCond .ne 6, 3), (14, .ldc 210, 2), (16, .ireturn, 1), (17, .aload_n 0, 1), (18, .iload_n 2, 1), (19, .invokevirtual 243, 3), (22, .ifCond .ne 6, 3), (25, .ldc 72, 2), (27, .ireturn, 1), (28, .aload_n 0, 1), (29, .getfield 194, 3), (32, .bipush 40, 2), (34, .if_icmp .ne 6, 3), (37, .ldc 76, 2), (39, .ireturn, 1), (40, .aload_n 0, 1), (41, .getfield 29, 3), (44, .iconst 2, 1), (45, .aload_n 0, 1), (46, .getfield 194, 3), (49, .imul, 1), (50, .iload_n 1, 1), (51, .iastore, 1), (52, .aload_n 0, 1), (53, .getfield 29, 3), (56, .iconst 2, 1), (57, .aload_n 0, 1), (58, .getfield 194, 3), (61, .imul, 1), (62, .iconst 1, 1), (63, .iadd, 1), (64, .iload_n 2, 1), (65, .iastore, 1), (66, .aload_n 0, 1), (67, .dup, 1), (68, .getfield 194, 3), (71, .iconst 1, 1), (72, .iadd, 1), (73, .putfield 194, 3), (76, .aload_n 0, 1), (77, .getfield 194, 3), (80, .ireturn, 1)]
theorem tbX12_write : vm_chk cX12_write tlX12_write = true := by decide +kernel
theorem dX12_write_0 : vm_at cX12_write 0 (.iload_n 1) 1 1 ∧ ((1 : Fin 4) : Nat) = 1 := ⟨⟨vm_row tbX12_write 0 rfl, rfl⟩, rfl⟩
theorem dX12_write_1 : vm_at cX12_write 1 (.iconst 0) 1 2 ∧ Int32.ofInt (0) = (0 : Int32) := ⟨⟨vm_row tbX12_write 1 rfl, rfl⟩, z_iconst_0⟩
theorem dX12_write_2 : vm_at cX12_write 2 (.aload_n 0) 1 3 ∧ ((0 : Fin 4) : Nat) = 0 := ⟨⟨vm_row tbX12_write 2 rfl, rfl⟩, rfl⟩
theorem dX12_write_3 : vm_at cX12_write 3 (.getfield 182) 3 6 := ⟨vm_row tbX12_write 3 rfl, rfl⟩
theorem dX12_write_6 : vm_at cX12_write 6 (.iconst 1) 1 7 ∧ Int32.ofInt (1) = (1 : Int32) := ⟨⟨vm_row tbX12_write 4 rfl, rfl⟩, z_iconst_1⟩
theorem dX12_write_7 : vm_at cX12_write 7 (.isub) 1 8 := ⟨vm_row tbX12_write 5 rfl, rfl⟩
theorem dX12_write_8 : vm_at cX12_write 8 (.invokestatic 68) 3 11 := ⟨vm_row tbX12_write 6 rfl, rfl⟩
theorem dX12_write_11 : vm_br cX12_write 11 (.ifCond .ne 6) 3 14 (6) 17 := ⟨vm_row tbX12_write 7 rfl, rfl, rfl⟩
theorem dX12_write_14 : vm_at cX12_write 14 (.ldc 210) 2 16 := ⟨vm_row tbX12_write 8 rfl, rfl⟩
theorem dX12_write_16 : vm_at cX12_write 16 (.ireturn) 1 17 := ⟨vm_row tbX12_write 9 rfl, rfl⟩
theorem dX12_write_17 : vm_at cX12_write 17 (.aload_n 0) 1 18 ∧ ((0 : Fin 4) : Nat) = 0 := ⟨⟨vm_row tbX12_write 10 rfl, rfl⟩, rfl⟩
theorem dX12_write_18 : vm_at cX12_write 18 (.iload_n 2) 1 19 ∧ ((2 : Fin 4) : Nat) = 2 := ⟨⟨vm_row tbX12_write 11 rfl, rfl⟩, rfl⟩
theorem dX12_write_19 : vm_at cX12_write 19 (.invokevirtual 243) 3 22 := ⟨vm_row tbX12_write 12 rfl, rfl⟩
theorem dX12_write_22 : vm_br cX12_write 22 (.ifCond .ne 6) 3 25 (6) 28 := ⟨vm_row tbX12_write 13 rfl, rfl, rfl⟩
theorem dX12_write_25 : vm_at cX12_write 25 (.ldc 72) 2 27 := ⟨vm_row tbX12_write 14 rfl, rfl⟩
theorem dX12_write_27 : vm_at cX12_write 27 (.ireturn) 1 28 := ⟨vm_row tbX12_write 15 rfl, rfl⟩
theorem dX12_write_28 : vm_at cX12_write 28 (.aload_n 0) 1 29 ∧ ((0 : Fin 4) : Nat) = 0 := ⟨⟨vm_row tbX12_write 16 rfl, rfl⟩, rfl⟩
theorem dX12_write_29 : vm_at cX12_write 29 (.getfield 194) 3 32 := ⟨vm_row tbX12_write 17 rfl, rfl⟩
theorem dX12_write_32 : vm_at cX12_write 32 (.bipush 40) 2 34 ∧ (Int8.ofInt (40)).toInt32 = (40 : Int32) := ⟨⟨vm_row tbX12_write 18 rfl, rfl⟩, z_bipush_40⟩
theorem dX12_write_34 : vm_br cX12_write 34 (.if_icmp .ne 6) 3 37 (6) 40 := ⟨vm_row tbX12_write 19 rfl, rfl, rfl⟩
theorem dX12_write_37 : vm_at cX12_write 37 (.ldc 76) 2 39 := ⟨vm_row tbX12_write 20 rfl, rfl⟩
theorem dX12_write_39 : vm_at cX12_write 39 (.ireturn) 1 40 := ⟨vm_row tbX12_write 21 rfl, rfl⟩
theorem dX12_write_40 : vm_at cX12_write 40 (.aload_n 0) 1 41 ∧ ((0 : Fin 4) : Nat) = 0 := ⟨⟨vm_row tbX12_write 22 rfl, rfl⟩, rfl⟩
theorem dX12_write_41 : vm_at cX12_write 41 (.getfield 29) 3 44 := ⟨vm_row tbX12_write 23 rfl, rfl⟩
theorem dX12_write_44 : vm_at cX12_write 44 (.iconst 2) 1 45 ∧ Int32.ofInt (2) = (2 : Int32) := ⟨⟨vm_row tbX12_write 24 rfl, rfl⟩, z_iconst_2⟩
theorem dX12_write_45 : vm_at cX12_write 45 (.aload_n 0) 1 46 ∧ ((0 : Fin 4) : Nat) = 0 := ⟨⟨vm_row tbX12_write 25 rfl, rfl⟩, rfl⟩
theorem dX12_write_46 : vm_at cX12_write 46 (.getfield 194) 3 49 := ⟨vm_row tbX12_write 26 rfl, rfl⟩
theorem dX12_write_49 : vm_at cX12_write 49 (.imul) 1 50 := ⟨vm_row tbX12_write 27 rfl, rfl⟩
theorem dX12_write_50 : vm_at cX12_write 50 (.iload_n 1) 1 51 ∧ ((1 : Fin 4) : Nat) = 1 := ⟨⟨vm_row tbX12_write 28 rfl, rfl⟩, rfl⟩
theorem dX12_write_51 : vm_at cX12_write 51 (.iastore) 1 52 := ⟨vm_row tbX12_write 29 rfl, rfl⟩
theorem dX12_write_52 : vm_at cX12_write 52 (.aload_n 0) 1 53 ∧ ((0 : Fin 4) : Nat) = 0 := ⟨⟨vm_row tbX12_write 30 rfl, rfl⟩, rfl⟩
theorem dX12_write_53 : vm_at cX12_write 53 (.getfield 29) 3 56 := ⟨vm_row tbX12_write 31 rfl, rfl⟩
theorem dX12_write_56 : vm_at cX12_write 56 (.iconst 2) 1 57 ∧ Int32.ofInt (2) = (2 : Int32) := ⟨⟨vm_row tbX12_write 32 rfl, rfl⟩, z_iconst_2⟩
theorem dX12_write_57 : vm_at cX12_write 57 (.aload_n 0) 1 58 ∧ ((0 : Fin 4) : Nat) = 0 := ⟨⟨vm_row tbX12_write 33 rfl, rfl⟩, rfl⟩
theorem dX12_write_58 : vm_at cX12_write 58 (.getfield 194) 3 61 := ⟨vm_row tbX12_write 34 rfl, rfl⟩
theorem dX12_write_61 : vm_at cX12_write 61 (.imul) 1 62 := ⟨vm_row tbX12_write 35 rfl, rfl⟩
theorem dX12_write_62 : vm_at cX12_write 62 (.iconst 1) 1 63 ∧ Int32.ofInt (1) = (1 : Int32) := ⟨⟨vm_row tbX12_write 36 rfl, rfl⟩, z_iconst_1⟩
theorem dX12_write_63 : vm_at cX12_write 63 (.iadd) 1 64 := ⟨vm_row tbX12_write 37 rfl, rfl⟩
theorem dX12_write_64 : vm_at cX12_write 64 (.iload_n 2) 1 65 ∧ ((2 : Fin 4) : Nat) = 2 := ⟨⟨vm_row tbX12_write 38 rfl, rfl⟩, rfl⟩
theorem dX12_write_65 : vm_at cX12_write 65 (.iastore) 1 66 := ⟨vm_row tbX12_write 39 rfl, rfl⟩
theorem dX12_write_66 : vm_at cX12_write 66 (.aload_n 0) 1 67 ∧ ((0 : Fin 4) : Nat) = 0 := ⟨⟨vm_row tbX12_write 40 rfl, rfl⟩, rfl⟩
theorem dX12_write_67 : vm_at cX12_write 67 (.dup) 1 68 := ⟨vm_row tbX12_write 41 rfl, rfl⟩
theorem dX12_write_68 : vm_at cX12_write 68 (.getfield 194) 3 71 := ⟨vm_row tbX12_write 42 rfl, rfl⟩
theorem dX12_write_71 : vm_at cX12_write 71 (.iconst 1) 1 72 ∧ Int32.ofInt (1) = (1 : Int32) := ⟨⟨vm_row tbX12_write 43 rfl, rfl⟩, z_iconst_1⟩
theorem dX12_write_72 : vm_at cX12_write 72 (.iadd) 1 73 := ⟨vm_row tbX12_write 44 rfl, rfl⟩
theorem dX12_write_73 : vm_at cX12_write 73 (.putfield 194) 3 76 := ⟨vm_row tbX12_write 45 rfl, rfl⟩
theorem dX12_write_76 : vm_at cX12_write 76 (.aload_n 0) 1 77 ∧ ((0 : Fin 4) : Nat) = 0 := ⟨⟨vm_row tbX12_write 46 rfl, rfl⟩, rfl⟩
theorem dX12_write_77 : vm_at cX12_write 77 (.getfield 194) 3 80 := ⟨vm_row tbX12_write 47 rfl, rfl⟩
theorem dX12_write_80 : vm_at cX12_write 80 (.ireturn) 1 81 := ⟨vm_row tbX12_write 48 rfl, rfl⟩
def tlX12_tear : List (Nat × Instr × Nat) := [(0, .aload_n 0, 1), (1, .getfield 194, 3), (4, .istore_n 1, 1), (5, .aload_n 0, 1), (6, .iconst 0, 1), (7, .putfield 194, 3), (10, .iload_n 1, 1), (11, .ireturn, 1)]
theorem tbX12_tear : vm_chk cX12_tear tlX12_tear = true := by decide +kernel
theorem dX12_tear_0 : vm_at cX12_tear 0 (.aload_n 0) 1 1 ∧ ((0 : Fin 4) : Nat) = 0 := ⟨⟨vm_row tbX12_tear 0 rfl, rfl⟩, rfl⟩
theorem dX12_tear_1 : vm_at cX12_tear 1 (.getfield 194) 3 4 := ⟨vm_row tbX12_tear 1 rfl, rfl⟩
theorem dX12_tear_4 : vm_at cX12_tear 4 (.istore_n 1) 1 5 ∧ ((1 : Fin 4) : Nat) = 1 := ⟨⟨vm_row tbX12_tear 2 rfl, rfl⟩, rfl⟩
theorem dX12_tear_5 : vm_at cX12_tear 5 (.aload_n 0) 1 6 ∧ ((0 : Fin 4) : Nat) = 0 := ⟨⟨vm_row tbX12_tear 3 rfl, rfl⟩, rfl⟩
theorem dX12_tear_6 : vm_at cX12_tear 6 (.iconst 0) 1 7 ∧ Int32.ofInt (0) = (0 : Int32) := ⟨⟨vm_row tbX12_tear 4 rfl, rfl⟩, z_iconst_0⟩
theorem dX12_tear_7 : vm_at cX12_tear 7 (.putfield 194) 3 10 := ⟨vm_row tbX12_tear 5 rfl, rfl⟩
theorem dX12_tear_10 : vm_at cX12_tear 10 (.iload_n 1) 1 11 ∧ ((1 : Fin 4) : Nat) = 1 := ⟨⟨vm_row tbX12_tear 6 rfl, rfl⟩, rfl⟩
theorem dX12_tear_11 : vm_at cX12_tear 11 (.ireturn) 1 12 := ⟨vm_row tbX12_tear 7 rfl, rfl⟩
def tlX12_judge : List (Nat × Instr × Nat) := [(0, .aload_n 0, 1), (1, .invokevirtual 229, 3), (4, .istore_n 1, 1), (5, .iconst (-1), 1), (6, .istore_n 2, 1), (7, .iconst 0, 1), (8, .istore_n 3, 1), (9, .iload_n 3, 1), (10, .aload_n 0, 1), (11, .getfield 194, 3), (14, .if_icmp .ge 49, 3), (17, .iload_n 2, 1), (18, .iconst (-1), 1), (19, .if_icmp .ne 44, 3), (22, .aload_n 0, 1), (23, .aload_n 0, 1), (24, .getfield 29, 3), (27, .iconst 2, 1), (28, .iload_n 3, 1), (29, .imul, 1), (30, .iaload, 1), (31, .invokevirtual 226, 3), (34, .aload_n 0, 1), (35, .getfield 197, 3), (38, .aload_n 0, 1), (39, .getfield 29, 3), (42, .iconst 2, 1), (43, .iload_n 3, 1), (44, .imul, 1), (45, .iconst 1, 1), (46, .iadd, 1), (47, .iaload, 1), (48, .if_icmp .ne 7, 3), (51, .iconst (-1), 1), (52, .goto 4, 3), (55, .iload_n 3, 1), (56, .istore_n 2, 1), (57, .iinc 3 1, 3), (60, .goto (-51), 3), (63, .aload_n 0, 1), (64, .iload_n 1, 1), (65, .invokevirtual 223, 3), (68, .iload_n 2, 1), (69, .ireturn, 1)]
theorem tbX12_judge : vm_chk cX12_judge tlX12_judge = true := by decide +kernel
theorem dX12_judge_0 : vm_at cX12_judge 0 (.aload_n 0) 1 1 ∧ ((0 : Fin 4) : Nat) = 0 := ⟨⟨vm_row tbX12_judge 0 rfl, rfl⟩, rfl⟩
theorem dX12_judge_1 : vm_at cX12_judge 1 (.invokevirtual 229) 3 4 := ⟨vm_row tbX12_judge 1 rfl, rfl⟩
theorem dX12_judge_4 : vm_at cX12_judge 4 (.istore_n 1) 1 5 ∧ ((1 : Fin 4) : Nat) = 1 := ⟨⟨vm_row tbX12_judge 2 rfl, rfl⟩, rfl⟩
theorem dX12_judge_5 : vm_at cX12_judge 5 (.iconst (-1)) 1 6 ∧ Int32.ofInt (-1) = (-1 : Int32) := ⟨⟨vm_row tbX12_judge 3 rfl, rfl⟩, z_iconst_m1⟩
theorem dX12_judge_6 : vm_at cX12_judge 6 (.istore_n 2) 1 7 ∧ ((2 : Fin 4) : Nat) = 2 := ⟨⟨vm_row tbX12_judge 4 rfl, rfl⟩, rfl⟩
theorem dX12_judge_7 : vm_at cX12_judge 7 (.iconst 0) 1 8 ∧ Int32.ofInt (0) = (0 : Int32) := ⟨⟨vm_row tbX12_judge 5 rfl, rfl⟩, z_iconst_0⟩
theorem dX12_judge_8 : vm_at cX12_judge 8 (.istore_n 3) 1 9 ∧ ((3 : Fin 4) : Nat) = 3 := ⟨⟨vm_row tbX12_judge 6 rfl, rfl⟩, rfl⟩
theorem dX12_judge_9 : vm_at cX12_judge 9 (.iload_n 3) 1 10 ∧ ((3 : Fin 4) : Nat) = 3 := ⟨⟨vm_row tbX12_judge 7 rfl, rfl⟩, rfl⟩
theorem dX12_judge_10 : vm_at cX12_judge 10 (.aload_n 0) 1 11 ∧ ((0 : Fin 4) : Nat) = 0 := ⟨⟨vm_row tbX12_judge 8 rfl, rfl⟩, rfl⟩
theorem dX12_judge_11 : vm_at cX12_judge 11 (.getfield 194) 3 14 := ⟨vm_row tbX12_judge 9 rfl, rfl⟩
theorem dX12_judge_14 : vm_br cX12_judge 14 (.if_icmp .ge 49) 3 17 (49) 63 := ⟨vm_row tbX12_judge 10 rfl, rfl, rfl⟩
theorem dX12_judge_17 : vm_at cX12_judge 17 (.iload_n 2) 1 18 ∧ ((2 : Fin 4) : Nat) = 2 := ⟨⟨vm_row tbX12_judge 11 rfl, rfl⟩, rfl⟩
theorem dX12_judge_18 : vm_at cX12_judge 18 (.iconst (-1)) 1 19 ∧ Int32.ofInt (-1) = (-1 : Int32) := ⟨⟨vm_row tbX12_judge 12 rfl, rfl⟩, z_iconst_m1⟩
theorem dX12_judge_19 : vm_br cX12_judge 19 (.if_icmp .ne 44) 3 22 (44) 63 := ⟨vm_row tbX12_judge 13 rfl, rfl, rfl⟩
theorem dX12_judge_22 : vm_at cX12_judge 22 (.aload_n 0) 1 23 ∧ ((0 : Fin 4) : Nat) = 0 := ⟨⟨vm_row tbX12_judge 14 rfl, rfl⟩, rfl⟩
theorem dX12_judge_23 : vm_at cX12_judge 23 (.aload_n 0) 1 24 ∧ ((0 : Fin 4) : Nat) = 0 := ⟨⟨vm_row tbX12_judge 15 rfl, rfl⟩, rfl⟩
theorem dX12_judge_24 : vm_at cX12_judge 24 (.getfield 29) 3 27 := ⟨vm_row tbX12_judge 16 rfl, rfl⟩
theorem dX12_judge_27 : vm_at cX12_judge 27 (.iconst 2) 1 28 ∧ Int32.ofInt (2) = (2 : Int32) := ⟨⟨vm_row tbX12_judge 17 rfl, rfl⟩, z_iconst_2⟩
theorem dX12_judge_28 : vm_at cX12_judge 28 (.iload_n 3) 1 29 ∧ ((3 : Fin 4) : Nat) = 3 := ⟨⟨vm_row tbX12_judge 18 rfl, rfl⟩, rfl⟩
theorem dX12_judge_29 : vm_at cX12_judge 29 (.imul) 1 30 := ⟨vm_row tbX12_judge 19 rfl, rfl⟩
theorem dX12_judge_30 : vm_at cX12_judge 30 (.iaload) 1 31 := ⟨vm_row tbX12_judge 20 rfl, rfl⟩
theorem dX12_judge_31 : vm_at cX12_judge 31 (.invokevirtual 226) 3 34 := ⟨vm_row tbX12_judge 21 rfl, rfl⟩
theorem dX12_judge_34 : vm_at cX12_judge 34 (.aload_n 0) 1 35 ∧ ((0 : Fin 4) : Nat) = 0 := ⟨⟨vm_row tbX12_judge 22 rfl, rfl⟩, rfl⟩
theorem dX12_judge_35 : vm_at cX12_judge 35 (.getfield 197) 3 38 := ⟨vm_row tbX12_judge 23 rfl, rfl⟩
theorem dX12_judge_38 : vm_at cX12_judge 38 (.aload_n 0) 1 39 ∧ ((0 : Fin 4) : Nat) = 0 := ⟨⟨vm_row tbX12_judge 24 rfl, rfl⟩, rfl⟩
theorem dX12_judge_39 : vm_at cX12_judge 39 (.getfield 29) 3 42 := ⟨vm_row tbX12_judge 25 rfl, rfl⟩
theorem dX12_judge_42 : vm_at cX12_judge 42 (.iconst 2) 1 43 ∧ Int32.ofInt (2) = (2 : Int32) := ⟨⟨vm_row tbX12_judge 26 rfl, rfl⟩, z_iconst_2⟩
theorem dX12_judge_43 : vm_at cX12_judge 43 (.iload_n 3) 1 44 ∧ ((3 : Fin 4) : Nat) = 3 := ⟨⟨vm_row tbX12_judge 27 rfl, rfl⟩, rfl⟩
theorem dX12_judge_44 : vm_at cX12_judge 44 (.imul) 1 45 := ⟨vm_row tbX12_judge 28 rfl, rfl⟩
theorem dX12_judge_45 : vm_at cX12_judge 45 (.iconst 1) 1 46 ∧ Int32.ofInt (1) = (1 : Int32) := ⟨⟨vm_row tbX12_judge 29 rfl, rfl⟩, z_iconst_1⟩
theorem dX12_judge_46 : vm_at cX12_judge 46 (.iadd) 1 47 := ⟨vm_row tbX12_judge 30 rfl, rfl⟩
theorem dX12_judge_47 : vm_at cX12_judge 47 (.iaload) 1 48 := ⟨vm_row tbX12_judge 31 rfl, rfl⟩
theorem dX12_judge_48 : vm_br cX12_judge 48 (.if_icmp .ne 7) 3 51 (7) 55 := ⟨vm_row tbX12_judge 32 rfl, rfl, rfl⟩
theorem dX12_judge_51 : vm_at cX12_judge 51 (.iconst (-1)) 1 52 ∧ Int32.ofInt (-1) = (-1 : Int32) := ⟨⟨vm_row tbX12_judge 33 rfl, rfl⟩, z_iconst_m1⟩
theorem dX12_judge_52 : vm_br cX12_judge 52 (.goto 4) 3 55 (4) 56 := ⟨vm_row tbX12_judge 34 rfl, rfl, rfl⟩
theorem dX12_judge_55 : vm_at cX12_judge 55 (.iload_n 3) 1 56 ∧ ((3 : Fin 4) : Nat) = 3 := ⟨⟨vm_row tbX12_judge 35 rfl, rfl⟩, rfl⟩
theorem dX12_judge_56 : vm_at cX12_judge 56 (.istore_n 2) 1 57 ∧ ((2 : Fin 4) : Nat) = 2 := ⟨⟨vm_row tbX12_judge 36 rfl, rfl⟩, rfl⟩
theorem dX12_judge_57 : vm_at cX12_judge 57 (.iinc 3 1) 3 60 ∧ Int32.ofInt (1) = (1 : Int32) := ⟨⟨vm_row tbX12_judge 37 rfl, rfl⟩, z_iconst_1⟩
theorem dX12_judge_60 : vm_br cX12_judge 60 (.goto (-51)) 3 63 (-51) 9 := ⟨vm_row tbX12_judge 38 rfl, rfl, rfl⟩
theorem dX12_judge_63 : vm_at cX12_judge 63 (.aload_n 0) 1 64 ∧ ((0 : Fin 4) : Nat) = 0 := ⟨⟨vm_row tbX12_judge 39 rfl, rfl⟩, rfl⟩
theorem dX12_judge_64 : vm_at cX12_judge 64 (.iload_n 1) 1 65 ∧ ((1 : Fin 4) : Nat) = 1 := ⟨⟨vm_row tbX12_judge 40 rfl, rfl⟩, rfl⟩
theorem dX12_judge_65 : vm_at cX12_judge 65 (.invokevirtual 223) 3 68 := ⟨vm_row tbX12_judge 41 rfl, rfl⟩
theorem dX12_judge_68 : vm_at cX12_judge 68 (.iload_n 2) 1 69 ∧ ((2 : Fin 4) : Nat) = 2 := ⟨⟨vm_row tbX12_judge 42 rfl, rfl⟩, rfl⟩
theorem dX12_judge_69 : vm_at cX12_judge 69 (.ireturn) 1 70 := ⟨vm_row tbX12_judge 43 rfl, rfl⟩
def tlX12_drift : List (Nat × Instr × Nat) := [(0, .iload_n 1, 1), (1, .iconst 1, 1), (2, .sipush 999, 3), (5, .invokestatic 68, 3), (8, .ifCond .ne 6, 3), (11, .ldc 72, 2), (13, .ireturn, 1), (14, .aload_n 0, 1), (15, .getfield 182, 3), (18, .ifCond .ne 7, 3), (21, .ldc_w 258, 3), (24, .ireturn, 1), (25, .iconst 0, 1), (26, .istore_n 2, 1), (27, .iload_n 2, 1), (28, .iload_n 1, 1), (29, .if_icmp .ge 69, 3), (32, .aload_n 0, 1), (33, .aload_n 0, 1), (34, .getfield 299, 3), (37, .ldc2_w 302, 3), (40, .lmul, 1), (41, .ldc2_w 304, 3), (44, .ladd, 1), (45, .ldc2_w 306, 3), (48, .lrem, 1), (49, .putfield 299, 3), (52, .aload_n 0, 1), (53, .getfield 299, 3), (56, .ldc2_w 308, 3), (59, .ldiv, 1), (60, .aload_n 0, 1), (61, .getfield 182, 3), (64, .i2l, 1), (65, .lrem, 1), (66, .l2i, 1), (67, .istore_n 3, 1), (68, .aload_n 0, 1), (69, .iload_n 3, 1), (70, .invokevirtual 226, 3), (73, .aload_n 0, 1), (74, .dup, 1), (75, .getfield 188, 3), (78, .aload_n 0, 1), (79, .getfield 13, 3), (82, .iconst 4, 1), (83, .iload_n 3, 1), (84, .imul, 1), (85, .iconst 1, 1), (86, .iadd, 1), (87, .iaload, 1), (88, .iadd, 1), (89, .putfield 188, 3), (92, .iinc 2 1, 3), (95, .goto (-68), 3), (98, .aload_n 0, 1), (99, .getfield 197, 3), (102, .ireturn, 1)]
theorem tbX12_drift : vm_chk cX12_drift tlX12_drift = true := by decide +kernel
theorem dX12_drift_0 : vm_at cX12_drift 0 (.iload_n 1) 1 1 ∧ ((1 : Fin 4) : Nat) = 1 := ⟨⟨vm_row tbX12_drift 0 rfl, rfl⟩, rfl⟩
theorem dX12_drift_1 : vm_at cX12_drift 1 (.iconst 1) 1 2 ∧ Int32.ofInt (1) = (1 : Int32) := ⟨⟨vm_row tbX12_drift 1 rfl, rfl⟩, z_iconst_1⟩
theorem dX12_drift_2 : vm_at cX12_drift 2 (.sipush 999) 3 5 ∧ (Int16.ofInt (999)).toInt32 = (999 : Int32) := ⟨⟨vm_row tbX12_drift 2 rfl, rfl⟩, z_sipush_999⟩
theorem dX12_drift_5 : vm_at cX12_drift 5 (.invokestatic 68) 3 8 := ⟨vm_row tbX12_drift 3 rfl, rfl⟩
theorem dX12_drift_8 : vm_br cX12_drift 8 (.ifCond .ne 6) 3 11 (6) 14 := ⟨vm_row tbX12_drift 4 rfl, rfl, rfl⟩
theorem dX12_drift_11 : vm_at cX12_drift 11 (.ldc 72) 2 13 := ⟨vm_row tbX12_drift 5 rfl, rfl⟩
theorem dX12_drift_13 : vm_at cX12_drift 13 (.ireturn) 1 14 := ⟨vm_row tbX12_drift 6 rfl, rfl⟩
theorem dX12_drift_14 : vm_at cX12_drift 14 (.aload_n 0) 1 15 ∧ ((0 : Fin 4) : Nat) = 0 := ⟨⟨vm_row tbX12_drift 7 rfl, rfl⟩, rfl⟩
theorem dX12_drift_15 : vm_at cX12_drift 15 (.getfield 182) 3 18 := ⟨vm_row tbX12_drift 8 rfl, rfl⟩
theorem dX12_drift_18 : vm_br cX12_drift 18 (.ifCond .ne 7) 3 21 (7) 25 := ⟨vm_row tbX12_drift 9 rfl, rfl, rfl⟩
theorem dX12_drift_21 : vm_at cX12_drift 21 (.ldc_w 258) 3 24 := ⟨vm_row tbX12_drift 10 rfl, rfl⟩
theorem dX12_drift_24 : vm_at cX12_drift 24 (.ireturn) 1 25 := ⟨vm_row tbX12_drift 11 rfl, rfl⟩
theorem dX12_drift_25 : vm_at cX12_drift 25 (.iconst 0) 1 26 ∧ Int32.ofInt (0) = (0 : Int32) := ⟨⟨vm_row tbX12_drift 12 rfl, rfl⟩, z_iconst_0⟩
theorem dX12_drift_26 : vm_at cX12_drift 26 (.istore_n 2) 1 27 ∧ ((2 : Fin 4) : Nat) = 2 := ⟨⟨vm_row tbX12_drift 13 rfl, rfl⟩, rfl⟩
theorem dX12_drift_27 : vm_at cX12_drift 27 (.iload_n 2) 1 28 ∧ ((2 : Fin 4) : Nat) = 2 := ⟨⟨vm_row tbX12_drift 14 rfl, rfl⟩, rfl⟩
theorem dX12_drift_28 : vm_at cX12_drift 28 (.iload_n 1) 1 29 ∧ ((1 : Fin 4) : Nat) = 1 := ⟨⟨vm_row tbX12_drift 15 rfl, rfl⟩, rfl⟩
theorem dX12_drift_29 : vm_br cX12_drift 29 (.if_icmp .ge 69) 3 32 (69) 98 := ⟨vm_row tbX12_drift 16 rfl, rfl, rfl⟩
theorem dX12_drift_32 : vm_at cX12_drift 32 (.aload_n 0) 1 33 ∧ ((0 : Fin 4) : Nat) = 0 := ⟨⟨vm_row tbX12_drift 17 rfl, rfl⟩, rfl⟩
theorem dX12_drift_33 : vm_at cX12_drift 33 (.aload_n 0) 1 34 ∧ ((0 : Fin 4) : Nat) = 0 := ⟨⟨vm_row tbX12_drift 18 rfl, rfl⟩, rfl⟩
theorem dX12_drift_34 : vm_at cX12_drift 34 (.getfield 299) 3 37 := ⟨vm_row tbX12_drift 19 rfl, rfl⟩
theorem dX12_drift_37 : vm_at cX12_drift 37 (.ldc2_w 302) 3 40 := ⟨vm_row tbX12_drift 20 rfl, rfl⟩
theorem dX12_drift_40 : vm_at cX12_drift 40 (.lmul) 1 41 := ⟨vm_row tbX12_drift 21 rfl, rfl⟩
theorem dX12_drift_41 : vm_at cX12_drift 41 (.ldc2_w 304) 3 44 := ⟨vm_row tbX12_drift 22 rfl, rfl⟩
theorem dX12_drift_44 : vm_at cX12_drift 44 (.ladd) 1 45 := ⟨vm_row tbX12_drift 23 rfl, rfl⟩
theorem dX12_drift_45 : vm_at cX12_drift 45 (.ldc2_w 306) 3 48 := ⟨vm_row tbX12_drift 24 rfl, rfl⟩
theorem dX12_drift_48 : vm_at cX12_drift 48 (.lrem) 1 49 := ⟨vm_row tbX12_drift 25 rfl, rfl⟩
theorem dX12_drift_49 : vm_at cX12_drift 49 (.putfield 299) 3 52 := ⟨vm_row tbX12_drift 26 rfl, rfl⟩
theorem dX12_drift_52 : vm_at cX12_drift 52 (.aload_n 0) 1 53 ∧ ((0 : Fin 4) : Nat) = 0 := ⟨⟨vm_row tbX12_drift 27 rfl, rfl⟩, rfl⟩
theorem dX12_drift_53 : vm_at cX12_drift 53 (.getfield 299) 3 56 := ⟨vm_row tbX12_drift 28 rfl, rfl⟩
theorem dX12_drift_56 : vm_at cX12_drift 56 (.ldc2_w 308) 3 59 := ⟨vm_row tbX12_drift 29 rfl, rfl⟩
theorem dX12_drift_59 : vm_at cX12_drift 59 (.ldiv) 1 60 := ⟨vm_row tbX12_drift 30 rfl, rfl⟩
theorem dX12_drift_60 : vm_at cX12_drift 60 (.aload_n 0) 1 61 ∧ ((0 : Fin 4) : Nat) = 0 := ⟨⟨vm_row tbX12_drift 31 rfl, rfl⟩, rfl⟩
theorem dX12_drift_61 : vm_at cX12_drift 61 (.getfield 182) 3 64 := ⟨vm_row tbX12_drift 32 rfl, rfl⟩
theorem dX12_drift_64 : vm_at cX12_drift 64 (.i2l) 1 65 := ⟨vm_row tbX12_drift 33 rfl, rfl⟩
theorem dX12_drift_65 : vm_at cX12_drift 65 (.lrem) 1 66 := ⟨vm_row tbX12_drift 34 rfl, rfl⟩
theorem dX12_drift_66 : vm_at cX12_drift 66 (.l2i) 1 67 := ⟨vm_row tbX12_drift 35 rfl, rfl⟩
theorem dX12_drift_67 : vm_at cX12_drift 67 (.istore_n 3) 1 68 ∧ ((3 : Fin 4) : Nat) = 3 := ⟨⟨vm_row tbX12_drift 36 rfl, rfl⟩, rfl⟩
theorem dX12_drift_68 : vm_at cX12_drift 68 (.aload_n 0) 1 69 ∧ ((0 : Fin 4) : Nat) = 0 := ⟨⟨vm_row tbX12_drift 37 rfl, rfl⟩, rfl⟩
theorem dX12_drift_69 : vm_at cX12_drift 69 (.iload_n 3) 1 70 ∧ ((3 : Fin 4) : Nat) = 3 := ⟨⟨vm_row tbX12_drift 38 rfl, rfl⟩, rfl⟩
theorem dX12_drift_70 : vm_at cX12_drift 70 (.invokevirtual 226) 3 73 := ⟨vm_row tbX12_drift 39 rfl, rfl⟩
theorem dX12_drift_73 : vm_at cX12_drift 73 (.aload_n 0) 1 74 ∧ ((0 : Fin 4) : Nat) = 0 := ⟨⟨vm_row tbX12_drift 40 rfl, rfl⟩, rfl⟩
theorem dX12_drift_74 : vm_at cX12_drift 74 (.dup) 1 75 := ⟨vm_row tbX12_drift 41 rfl, rfl⟩
theorem dX12_drift_75 : vm_at cX12_drift 75 (.getfield 188) 3 78 := ⟨vm_row tbX12_drift 42 rfl, rfl⟩
theorem dX12_drift_78 : vm_at cX12_drift 78 (.aload_n 0) 1 79 ∧ ((0 : Fin 4) : Nat) = 0 := ⟨⟨vm_row tbX12_drift 43 rfl, rfl⟩, rfl⟩
theorem dX12_drift_79 : vm_at cX12_drift 79 (.getfield 13) 3 82 := ⟨vm_row tbX12_drift 44 rfl, rfl⟩
theorem dX12_drift_82 : vm_at cX12_drift 82 (.iconst 4) 1 83 ∧ Int32.ofInt (4) = (4 : Int32) := ⟨⟨vm_row tbX12_drift 45 rfl, rfl⟩, z_iconst_4⟩
theorem dX12_drift_83 : vm_at cX12_drift 83 (.iload_n 3) 1 84 ∧ ((3 : Fin 4) : Nat) = 3 := ⟨⟨vm_row tbX12_drift 46 rfl, rfl⟩, rfl⟩
theorem dX12_drift_84 : vm_at cX12_drift 84 (.imul) 1 85 := ⟨vm_row tbX12_drift 47 rfl, rfl⟩
theorem dX12_drift_85 : vm_at cX12_drift 85 (.iconst 1) 1 86 ∧ Int32.ofInt (1) = (1 : Int32) := ⟨⟨vm_row tbX12_drift 48 rfl, rfl⟩, z_iconst_1⟩
theorem dX12_drift_86 : vm_at cX12_drift 86 (.iadd) 1 87 := ⟨vm_row tbX12_drift 49 rfl, rfl⟩
theorem dX12_drift_87 : vm_at cX12_drift 87 (.iaload) 1 88 := ⟨vm_row tbX12_drift 50 rfl, rfl⟩
theorem dX12_drift_88 : vm_at cX12_drift 88 (.iadd) 1 89 := ⟨vm_row tbX12_drift 51 rfl, rfl⟩
theorem dX12_drift_89 : vm_at cX12_drift 89 (.putfield 188) 3 92 := ⟨vm_row tbX12_drift 52 rfl, rfl⟩
theorem dX12_drift_92 : vm_at cX12_drift 92 (.iinc 2 1) 3 95 ∧ Int32.ofInt (1) = (1 : Int32) := ⟨⟨vm_row tbX12_drift 53 rfl, rfl⟩, z_iconst_1⟩
theorem dX12_drift_95 : vm_br cX12_drift 95 (.goto (-68)) 3 98 (-68) 27 := ⟨vm_row tbX12_drift 54 rfl, rfl, rfl⟩
theorem dX12_drift_98 : vm_at cX12_drift 98 (.aload_n 0) 1 99 ∧ ((0 : Fin 4) : Nat) = 0 := ⟨⟨vm_row tbX12_drift 55 rfl, rfl⟩, rfl⟩
theorem dX12_drift_99 : vm_at cX12_drift 99 (.getfield 197) 3 102 := ⟨vm_row tbX12_drift 56 rfl, rfl⟩
theorem dX12_drift_102 : vm_at cX12_drift 102 (.ireturn) 1 103 := ⟨vm_row tbX12_drift 57 rfl, rfl⟩
def tlX12_seed : List (Nat × Instr × Nat) := [(0, .iload_n 1, 1), (1, .ifCond .ge 6, 3), (4, .ldc 72, 2), (6, .ireturn, 1), (7, .aload_n 0, 1), (8, .getfield 299, 3), (11, .l2i, 1), (12, .istore_n 2, 1), (13, .aload_n 0, 1), (14, .iload_n 1, 1), (15, .i2l, 1), (16, .putfield 299, 3), (19, .iload_n 2, 1), (20, .ireturn, 1)]
theorem tbX12_seed : vm_chk cX12_seed tlX12_seed = true := by decide +kernel
theorem dX12_seed_0 : vm_at cX12_seed 0 (.iload_n 1) 1 1 ∧ ((1 : Fin 4) : Nat) = 1 := ⟨⟨vm_row tbX12_seed 0 rfl, rfl⟩, rfl⟩
theorem dX12_seed_1 : vm_br cX12_seed 1 (.ifCond .ge 6) 3 4 (6) 7 := ⟨vm_row tbX12_seed 1 rfl, rfl, rfl⟩
theorem dX12_seed_4 : vm_at cX12_seed 4 (.ldc 72) 2 6 := ⟨vm_row tbX12_seed 2 rfl, rfl⟩
theorem dX12_seed_6 : vm_at cX12_seed 6 (.ireturn) 1 7 := ⟨vm_row tbX12_seed 3 rfl, rfl⟩
theorem dX12_seed_7 : vm_at cX12_seed 7 (.aload_n 0) 1 8 ∧ ((0 : Fin 4) : Nat) = 0 := ⟨⟨vm_row tbX12_seed 4 rfl, rfl⟩, rfl⟩
theorem dX12_seed_8 : vm_at cX12_seed 8 (.getfield 299) 3 11 := ⟨vm_row tbX12_seed 5 rfl, rfl⟩
theorem dX12_seed_11 : vm_at cX12_seed 11 (.l2i) 1 12 := ⟨vm_row tbX12_seed 6 rfl, rfl⟩
theorem dX12_seed_12 : vm_at cX12_seed 12 (.istore_n 2) 1 13 ∧ ((2 : Fin 4) : Nat) = 2 := ⟨⟨vm_row tbX12_seed 7 rfl, rfl⟩, rfl⟩
theorem dX12_seed_13 : vm_at cX12_seed 13 (.aload_n 0) 1 14 ∧ ((0 : Fin 4) : Nat) = 0 := ⟨⟨vm_row tbX12_seed 8 rfl, rfl⟩, rfl⟩
theorem dX12_seed_14 : vm_at cX12_seed 14 (.iload_n 1) 1 15 ∧ ((1 : Fin 4) : Nat) = 1 := ⟨⟨vm_row tbX12_seed 9 rfl, rfl⟩, rfl⟩
theorem dX12_seed_15 : vm_at cX12_seed 15 (.i2l) 1 16 := ⟨vm_row tbX12_seed 10 rfl, rfl⟩
theorem dX12_seed_16 : vm_at cX12_seed 16 (.putfield 299) 3 19 := ⟨vm_row tbX12_seed 11 rfl, rfl⟩
theorem dX12_seed_19 : vm_at cX12_seed 19 (.iload_n 2) 1 20 ∧ ((2 : Fin 4) : Nat) = 2 := ⟨⟨vm_row tbX12_seed 12 rfl, rfl⟩, rfl⟩
theorem dX12_seed_20 : vm_at cX12_seed 20 (.ireturn) 1 21 := ⟨vm_row tbX12_seed 13 rfl, rfl⟩
def tlX12_keep : List (Nat × Instr × Nat) := [(0, .iload_n 1, 1), (1, .iconst 0, 1), (2, .iconst 1, 1), (3, .invokestatic 68, 3), (6, .ifCond .ne 6, 3), (9, .ldc 210, 2), (11, .ireturn, 1), (12, .aload_n 0, 1), (13, .getfield 32, 3), (16, .bipush 9, 2), (18, .iload_n 1, 1), (19, .imul, 1), (20, .aload_n 0, 1), (21, .invokevirtual 229, 3), (24, .iastore, 1), (25, .aload_n 0, 1), (26, .getfield 32, 3), (29, .bipush 9, 2), (31, .iload_n 1, 1), (32, .imul, 1), (33, .iconst 1, 1), (34, .iadd, 1), (35, .aload_n 0, 1), (36, .getfield 188, 3), (39, .iastore, 1), (40, .aload_n 0, 1), (41, .getfield 32, 3), (44, .bipush 9, 2), (46, .iload_n 1, 1), (47, .imul, 1), (48, .iconst 2, 1), (49, .iadd, 1), (50, .aload_n 0, 1), (51, .getfield 191, 3), (54, .iastore, 1), (55, .iconst 0, 1), (56, .istore_n 2, 1), (57, .iload_n 2, 1), (58, .bipush 6, 2), (60, .if_icmp .ge 28, 3), (63, .aload_n 0, 1), (64, .getfield 32, 3), (67, .bipush 9, 2), (69, .iload_n 1, 1), (70, .imul, 1), (71, .iconst 3, 1), (72, .iadd, 1), (73, .iload_n 2, 1), (74, .iadd, 1), (75, .aload_n 0, 1), (76, .getfield 26, 3), (79, .iload_n 2, 1), (80, .iaload, 1), (81, .iastore, 1), (82, .iinc 2 1, 3), (85, .goto (-28), 3), (88, .aload_n 0, 1), (89, .getfield 35, 3), (92, .iload_n 1, 1), (93, .aload_n 0, 1), (94, .getfield 299, 3), (97, .lastore, 1), (98, .aload_n 0, 1), (99, .getfield 39, 3), (102, .iload_n 1, 1), (103, .iconst 1, 1), (104, .bastore, 1), (105, .iconst 1, 1), (106, .ireturn, 1)]
theorem tbX12_keep : vm_chk cX12_keep tlX12_keep = true := by decide +kernel
theorem dX12_keep_0 : vm_at cX12_keep 0 (.iload_n 1) 1 1 ∧ ((1 : Fin 4) : Nat) = 1 := ⟨⟨vm_row tbX12_keep 0 rfl, rfl⟩, rfl⟩
theorem dX12_keep_1 : vm_at cX12_keep 1 (.iconst 0) 1 2 ∧ Int32.ofInt (0) = (0 : Int32) := ⟨⟨vm_row tbX12_keep 1 rfl, rfl⟩, z_iconst_0⟩
theorem dX12_keep_2 : vm_at cX12_keep 2 (.iconst 1) 1 3 ∧ Int32.ofInt (1) = (1 : Int32) := ⟨⟨vm_row tbX12_keep 2 rfl, rfl⟩, z_iconst_1⟩
theorem dX12_keep_3 : vm_at cX12_keep 3 (.invokestatic 68) 3 6 := ⟨vm_row tbX12_keep 3 rfl, rfl⟩
theorem dX12_keep_6 : vm_br cX12_keep 6 (.ifCond .ne 6) 3 9 (6) 12 := ⟨vm_row tbX12_keep 4 rfl, rfl, rfl⟩
theorem dX12_keep_9 : vm_at cX12_keep 9 (.ldc 210) 2 11 := ⟨vm_row tbX12_keep 5 rfl, rfl⟩
theorem dX12_keep_11 : vm_at cX12_keep 11 (.ireturn) 1 12 := ⟨vm_row tbX12_keep 6 rfl, rfl⟩
theorem dX12_keep_12 : vm_at cX12_keep 12 (.aload_n 0) 1 13 ∧ ((0 : Fin 4) : Nat) = 0 := ⟨⟨vm_row tbX12_keep 7 rfl, rfl⟩, rfl⟩
theorem dX12_keep_13 : vm_at cX12_keep 13 (.getfield 32) 3 16 := ⟨vm_row tbX12_keep 8 rfl, rfl⟩
theorem dX12_keep_16 : vm_at cX12_keep 16 (.bipush 9) 2 18 ∧ (Int8.ofInt (9)).toInt32 = (9 : Int32) := ⟨⟨vm_row tbX12_keep 9 rfl, rfl⟩, z_bipush_9⟩
theorem dX12_keep_18 : vm_at cX12_keep 18 (.iload_n 1) 1 19 ∧ ((1 : Fin 4) : Nat) = 1 := ⟨⟨vm_row tbX12_keep 10 rfl, rfl⟩, rfl⟩
theorem dX12_keep_19 : vm_at cX12_keep 19 (.imul) 1 20 := ⟨vm_row tbX12_keep 11 rfl, rfl⟩
theorem dX12_keep_20 : vm_at cX12_keep 20 (.aload_n 0) 1 21 ∧ ((0 : Fin 4) : Nat) = 0 := ⟨⟨vm_row tbX12_keep 12 rfl, rfl⟩, rfl⟩
theorem dX12_keep_21 : vm_at cX12_keep 21 (.invokevirtual 229) 3 24 := ⟨vm_row tbX12_keep 13 rfl, rfl⟩
theorem dX12_keep_24 : vm_at cX12_keep 24 (.iastore) 1 25 := ⟨vm_row tbX12_keep 14 rfl, rfl⟩
theorem dX12_keep_25 : vm_at cX12_keep 25 (.aload_n 0) 1 26 ∧ ((0 : Fin 4) : Nat) = 0 := ⟨⟨vm_row tbX12_keep 15 rfl, rfl⟩, rfl⟩
theorem dX12_keep_26 : vm_at cX12_keep 26 (.getfield 32) 3 29 := ⟨vm_row tbX12_keep 16 rfl, rfl⟩
theorem dX12_keep_29 : vm_at cX12_keep 29 (.bipush 9) 2 31 ∧ (Int8.ofInt (9)).toInt32 = (9 : Int32) := ⟨⟨vm_row tbX12_keep 17 rfl, rfl⟩, z_bipush_9⟩
theorem dX12_keep_31 : vm_at cX12_keep 31 (.iload_n 1) 1 32 ∧ ((1 : Fin 4) : Nat) = 1 := ⟨⟨vm_row tbX12_keep 18 rfl, rfl⟩, rfl⟩
theorem dX12_keep_32 : vm_at cX12_keep 32 (.imul) 1 33 := ⟨vm_row tbX12_keep 19 rfl, rfl⟩
theorem dX12_keep_33 : vm_at cX12_keep 33 (.iconst 1) 1 34 ∧ Int32.ofInt (1) = (1 : Int32) := ⟨⟨vm_row tbX12_keep 20 rfl, rfl⟩, z_iconst_1⟩
theorem dX12_keep_34 : vm_at cX12_keep 34 (.iadd) 1 35 := ⟨vm_row tbX12_keep 21 rfl, rfl⟩
theorem dX12_keep_35 : vm_at cX12_keep 35 (.aload_n 0) 1 36 ∧ ((0 : Fin 4) : Nat) = 0 := ⟨⟨vm_row tbX12_keep 22 rfl, rfl⟩, rfl⟩
theorem dX12_keep_36 : vm_at cX12_keep 36 (.getfield 188) 3 39 := ⟨vm_row tbX12_keep 23 rfl, rfl⟩
theorem dX12_keep_39 : vm_at cX12_keep 39 (.iastore) 1 40 := ⟨vm_row tbX12_keep 24 rfl, rfl⟩
theorem dX12_keep_40 : vm_at cX12_keep 40 (.aload_n 0) 1 41 ∧ ((0 : Fin 4) : Nat) = 0 := ⟨⟨vm_row tbX12_keep 25 rfl, rfl⟩, rfl⟩
theorem dX12_keep_41 : vm_at cX12_keep 41 (.getfield 32) 3 44 := ⟨vm_row tbX12_keep 26 rfl, rfl⟩
theorem dX12_keep_44 : vm_at cX12_keep 44 (.bipush 9) 2 46 ∧ (Int8.ofInt (9)).toInt32 = (9 : Int32) := ⟨⟨vm_row tbX12_keep 27 rfl, rfl⟩, z_bipush_9⟩
theorem dX12_keep_46 : vm_at cX12_keep 46 (.iload_n 1) 1 47 ∧ ((1 : Fin 4) : Nat) = 1 := ⟨⟨vm_row tbX12_keep 28 rfl, rfl⟩, rfl⟩
theorem dX12_keep_47 : vm_at cX12_keep 47 (.imul) 1 48 := ⟨vm_row tbX12_keep 29 rfl, rfl⟩
theorem dX12_keep_48 : vm_at cX12_keep 48 (.iconst 2) 1 49 ∧ Int32.ofInt (2) = (2 : Int32) := ⟨⟨vm_row tbX12_keep 30 rfl, rfl⟩, z_iconst_2⟩
theorem dX12_keep_49 : vm_at cX12_keep 49 (.iadd) 1 50 := ⟨vm_row tbX12_keep 31 rfl, rfl⟩
theorem dX12_keep_50 : vm_at cX12_keep 50 (.aload_n 0) 1 51 ∧ ((0 : Fin 4) : Nat) = 0 := ⟨⟨vm_row tbX12_keep 32 rfl, rfl⟩, rfl⟩
theorem dX12_keep_51 : vm_at cX12_keep 51 (.getfield 191) 3 54 := ⟨vm_row tbX12_keep 33 rfl, rfl⟩
theorem dX12_keep_54 : vm_at cX12_keep 54 (.iastore) 1 55 := ⟨vm_row tbX12_keep 34 rfl, rfl⟩
theorem dX12_keep_55 : vm_at cX12_keep 55 (.iconst 0) 1 56 ∧ Int32.ofInt (0) = (0 : Int32) := ⟨⟨vm_row tbX12_keep 35 rfl, rfl⟩, z_iconst_0⟩
theorem dX12_keep_56 : vm_at cX12_keep 56 (.istore_n 2) 1 57 ∧ ((2 : Fin 4) : Nat) = 2 := ⟨⟨vm_row tbX12_keep 36 rfl, rfl⟩, rfl⟩
theorem dX12_keep_57 : vm_at cX12_keep 57 (.iload_n 2) 1 58 ∧ ((2 : Fin 4) : Nat) = 2 := ⟨⟨vm_row tbX12_keep 37 rfl, rfl⟩, rfl⟩
theorem dX12_keep_58 : vm_at cX12_keep 58 (.bipush 6) 2 60 ∧ (Int8.ofInt (6)).toInt32 = (6 : Int32) := ⟨⟨vm_row tbX12_keep 38 rfl, rfl⟩, z_bipush_6⟩
theorem dX12_keep_60 : vm_br cX12_keep 60 (.if_icmp .ge 28) 3 63 (28) 88 := ⟨vm_row tbX12_keep 39 rfl, rfl, rfl⟩
theorem dX12_keep_63 : vm_at cX12_keep 63 (.aload_n 0) 1 64 ∧ ((0 : Fin 4) : Nat) = 0 := ⟨⟨vm_row tbX12_keep 40 rfl, rfl⟩, rfl⟩
theorem dX12_keep_64 : vm_at cX12_keep 64 (.getfield 32) 3 67 := ⟨vm_row tbX12_keep 41 rfl, rfl⟩
theorem dX12_keep_67 : vm_at cX12_keep 67 (.bipush 9) 2 69 ∧ (Int8.ofInt (9)).toInt32 = (9 : Int32) := ⟨⟨vm_row tbX12_keep 42 rfl, rfl⟩, z_bipush_9⟩
theorem dX12_keep_69 : vm_at cX12_keep 69 (.iload_n 1) 1 70 ∧ ((1 : Fin 4) : Nat) = 1 := ⟨⟨vm_row tbX12_keep 43 rfl, rfl⟩, rfl⟩
theorem dX12_keep_70 : vm_at cX12_keep 70 (.imul) 1 71 := ⟨vm_row tbX12_keep 44 rfl, rfl⟩
theorem dX12_keep_71 : vm_at cX12_keep 71 (.iconst 3) 1 72 ∧ Int32.ofInt (3) = (3 : Int32) := ⟨⟨vm_row tbX12_keep 45 rfl, rfl⟩, z_iconst_3⟩
theorem dX12_keep_72 : vm_at cX12_keep 72 (.iadd) 1 73 := ⟨vm_row tbX12_keep 46 rfl, rfl⟩
theorem dX12_keep_73 : vm_at cX12_keep 73 (.iload_n 2) 1 74 ∧ ((2 : Fin 4) : Nat) = 2 := ⟨⟨vm_row tbX12_keep 47 rfl, rfl⟩, rfl⟩
theorem dX12_keep_74 : vm_at cX12_keep 74 (.iadd) 1 75 := ⟨vm_row tbX12_keep 48 rfl, rfl⟩
theorem dX12_keep_75 : vm_at cX12_keep 75 (.aload_n 0) 1 76 ∧ ((0 : Fin 4) : Nat) = 0 := ⟨⟨vm_row tbX12_keep 49 rfl, rfl⟩, rfl⟩
theorem dX12_keep_76 : vm_at cX12_keep 76 (.getfield 26) 3 79 := ⟨vm_row tbX12_keep 50 rfl, rfl⟩
theorem dX12_keep_79 : vm_at cX12_keep 79 (.iload_n 2) 1 80 ∧ ((2 : Fin 4) : Nat) = 2 := ⟨⟨vm_row tbX12_keep 51 rfl, rfl⟩, rfl⟩
theorem dX12_keep_80 : vm_at cX12_keep 80 (.iaload) 1 81 := ⟨vm_row tbX12_keep 52 rfl, rfl⟩
theorem dX12_keep_81 : vm_at cX12_keep 81 (.iastore) 1 82 := ⟨vm_row tbX12_keep 53 rfl, rfl⟩
theorem dX12_keep_82 : vm_at cX12_keep 82 (.iinc 2 1) 3 85 ∧ Int32.ofInt (1) = (1 : Int32) := ⟨⟨vm_row tbX12_keep 54 rfl, rfl⟩, z_iconst_1⟩
theorem dX12_keep_85 : vm_br cX12_keep 85 (.goto (-28)) 3 88 (-28) 57 := ⟨vm_row tbX12_keep 55 rfl, rfl, rfl⟩
theorem dX12_keep_88 : vm_at cX12_keep 88 (.aload_n 0) 1 89 ∧ ((0 : Fin 4) : Nat) = 0 := ⟨⟨vm_row tbX12_keep 56 rfl, rfl⟩, rfl⟩
theorem dX12_keep_89 : vm_at cX12_keep 89 (.getfield 35) 3 92 := ⟨vm_row tbX12_keep 57 rfl, rfl⟩
theorem dX12_keep_92 : vm_at cX12_keep 92 (.iload_n 1) 1 93 ∧ ((1 : Fin 4) : Nat) = 1 := ⟨⟨vm_row tbX12_keep 58 rfl, rfl⟩, rfl⟩
theorem dX12_keep_93 : vm_at cX12_keep 93 (.aload_n 0) 1 94 ∧ ((0 : Fin 4) : Nat) = 0 := ⟨⟨vm_row tbX12_keep 59 rfl, rfl⟩, rfl⟩
theorem dX12_keep_94 : vm_at cX12_keep 94 (.getfield 299) 3 97 := ⟨vm_row tbX12_keep 60 rfl, rfl⟩
theorem dX12_keep_97 : vm_at cX12_keep 97 (.lastore) 1 98 := ⟨vm_row tbX12_keep 61 rfl, rfl⟩
theorem dX12_keep_98 : vm_at cX12_keep 98 (.aload_n 0) 1 99 ∧ ((0 : Fin 4) : Nat) = 0 := ⟨⟨vm_row tbX12_keep 62 rfl, rfl⟩, rfl⟩
theorem dX12_keep_99 : vm_at cX12_keep 99 (.getfield 39) 3 102 := ⟨vm_row tbX12_keep 63 rfl, rfl⟩
theorem dX12_keep_102 : vm_at cX12_keep 102 (.iload_n 1) 1 103 ∧ ((1 : Fin 4) : Nat) = 1 := ⟨⟨vm_row tbX12_keep 64 rfl, rfl⟩, rfl⟩
theorem dX12_keep_103 : vm_at cX12_keep 103 (.iconst 1) 1 104 ∧ Int32.ofInt (1) = (1 : Int32) := ⟨⟨vm_row tbX12_keep 65 rfl, rfl⟩, z_iconst_1⟩
theorem dX12_keep_104 : vm_at cX12_keep 104 (.bastore) 1 105 := ⟨vm_row tbX12_keep 66 rfl, rfl⟩
theorem dX12_keep_105 : vm_at cX12_keep 105 (.iconst 1) 1 106 ∧ Int32.ofInt (1) = (1 : Int32) := ⟨⟨vm_row tbX12_keep 67 rfl, rfl⟩, z_iconst_1⟩
theorem dX12_keep_106 : vm_at cX12_keep 106 (.ireturn) 1 107 := ⟨vm_row tbX12_keep 68 rfl, rfl⟩
def tlX12_goBack : List (Nat × Instr × Nat) := [(0, .iload_n 1, 1), (1, .iconst 0, 1), (2, .iconst 1, 1), (3, .invokestatic 68, 3), (6, .ifCond .ne 6, 3), (9, .ldc 210, 2), (11, .ireturn, 1), (12, .aload_n 0, 1), (13, .getfield 39, 3), (16, .iload_n 1, 1), (17, .baload, 1), (18, .ifCond .ne 7, 3), (21, .ldc_w 258, 3), (24, .ireturn, 1), (25, .aload_n 0, 1), (26, .aload_n 0, 1), (27, .getfield 32, 3), (30, .bipush 9, 2), (32, .iload_n 1, 1), (33, .imul, 1), (34, .iaload, 1), (35, .invokevirtual 223, 3), (38, .aload_n 0, 1), (39, .aload_n 0, 1), (40, .getfield 32, 3), (43, .bipush 9, 2), (45, .iload_n 1, 1), (46, .imul, 1), (47, .iconst 1, 1), (48, .iadd, 1), (49, .iaload, 1), (50, .putfield 188, 3), (53, .aload_n 0, 1), (54, .aload_n 0, 1), (55, .getfield 32, 3), (58, .bipush 9, 2), (60, .iload_n 1, 1), (61, .imul, 1), (62, .iconst 2, 1), (63, .iadd, 1), (64, .iaload, 1), (65, .putfield 191, 3), (68, .iconst 0, 1), (69, .istore_n 2, 1), (70, .iload_n 2, 1), (71, .bipush 6, 2), (73, .if_icmp .ge 28, 3), (76, .aload_n 0, 1), (77, .getfield 26, 3), (80, .iload_n 2, 1), (81, .aload_n 0, 1), (82, .getfield 32, 3), (85, .bipush 9, 2), (87, .iload_n 1, 1), (88, .imul, 1), (89, .iconst 3, 1), (90, .iadd, 1), (91, .iload_n 2, 1), (92, .iadd, 1), (93, .iaload, 1), (94, .iastore, 1), (95, .iinc 2 1, 3), (98, .goto (-28), 3), (101, .aload_n 0, 1), (102, .aload_n 0, 1), (103, .getfield 35, 3), (106, .iload_n 1, 1), (107, .laload, 1), (108, .putfield 299, 3), (111, .iconst 1, 1), (112, .ireturn, 1)]
theorem tbX12_goBack : vm_chk cX12_goBack tlX12_goBack = true := by decide +kernel
theorem dX12_goBack_0 : vm_at cX12_goBack 0 (.iload_n 1) 1 1 ∧ ((1 : Fin 4) : Nat) = 1 := ⟨⟨vm_row tbX12_goBack 0 rfl, rfl⟩, rfl⟩
theorem dX12_goBack_1 : vm_at cX12_goBack 1 (.iconst 0) 1 2 ∧ Int32.ofInt (0) = (0 : Int32) := ⟨⟨vm_row tbX12_goBack 1 rfl, rfl⟩, z_iconst_0⟩
theorem dX12_goBack_2 : vm_at cX12_goBack 2 (.iconst 1) 1 3 ∧ Int32.ofInt (1) = (1 : Int32) := ⟨⟨vm_row tbX12_goBack 2 rfl, rfl⟩, z_iconst_1⟩
theorem dX12_goBack_3 : vm_at cX12_goBack 3 (.invokestatic 68) 3 6 := ⟨vm_row tbX12_goBack 3 rfl, rfl⟩
theorem dX12_goBack_6 : vm_br cX12_goBack 6 (.ifCond .ne 6) 3 9 (6) 12 := ⟨vm_row tbX12_goBack 4 rfl, rfl, rfl⟩
theorem dX12_goBack_9 : vm_at cX12_goBack 9 (.ldc 210) 2 11 := ⟨vm_row tbX12_goBack 5 rfl, rfl⟩
theorem dX12_goBack_11 : vm_at cX12_goBack 11 (.ireturn) 1 12 := ⟨vm_row tbX12_goBack 6 rfl, rfl⟩
theorem dX12_goBack_12 : vm_at cX12_goBack 12 (.aload_n 0) 1 13 ∧ ((0 : Fin 4) : Nat) = 0 := ⟨⟨vm_row tbX12_goBack 7 rfl, rfl⟩, rfl⟩
theorem dX12_goBack_13 : vm_at cX12_goBack 13 (.getfield 39) 3 16 := ⟨vm_row tbX12_goBack 8 rfl, rfl⟩
theorem dX12_goBack_16 : vm_at cX12_goBack 16 (.iload_n 1) 1 17 ∧ ((1 : Fin 4) : Nat) = 1 := ⟨⟨vm_row tbX12_goBack 9 rfl, rfl⟩, rfl⟩
theorem dX12_goBack_17 : vm_at cX12_goBack 17 (.baload) 1 18 := ⟨vm_row tbX12_goBack 10 rfl, rfl⟩
theorem dX12_goBack_18 : vm_br cX12_goBack 18 (.ifCond .ne 7) 3 21 (7) 25 := ⟨vm_row tbX12_goBack 11 rfl, rfl, rfl⟩
theorem dX12_goBack_21 : vm_at cX12_goBack 21 (.ldc_w 258) 3 24 := ⟨vm_row tbX12_goBack 12 rfl, rfl⟩
theorem dX12_goBack_24 : vm_at cX12_goBack 24 (.ireturn) 1 25 := ⟨vm_row tbX12_goBack 13 rfl, rfl⟩
theorem dX12_goBack_25 : vm_at cX12_goBack 25 (.aload_n 0) 1 26 ∧ ((0 : Fin 4) : Nat) = 0 := ⟨⟨vm_row tbX12_goBack 14 rfl, rfl⟩, rfl⟩
theorem dX12_goBack_26 : vm_at cX12_goBack 26 (.aload_n 0) 1 27 ∧ ((0 : Fin 4) : Nat) = 0 := ⟨⟨vm_row tbX12_goBack 15 rfl, rfl⟩, rfl⟩
theorem dX12_goBack_27 : vm_at cX12_goBack 27 (.getfield 32) 3 30 := ⟨vm_row tbX12_goBack 16 rfl, rfl⟩
theorem dX12_goBack_30 : vm_at cX12_goBack 30 (.bipush 9) 2 32 ∧ (Int8.ofInt (9)).toInt32 = (9 : Int32) := ⟨⟨vm_row tbX12_goBack 17 rfl, rfl⟩, z_bipush_9⟩
theorem dX12_goBack_32 : vm_at cX12_goBack 32 (.iload_n 1) 1 33 ∧ ((1 : Fin 4) : Nat) = 1 := ⟨⟨vm_row tbX12_goBack 18 rfl, rfl⟩, rfl⟩
theorem dX12_goBack_33 : vm_at cX12_goBack 33 (.imul) 1 34 := ⟨vm_row tbX12_goBack 19 rfl, rfl⟩
theorem dX12_goBack_34 : vm_at cX12_goBack 34 (.iaload) 1 35 := ⟨vm_row tbX12_goBack 20 rfl, rfl⟩
theorem dX12_goBack_35 : vm_at cX12_goBack 35 (.invokevirtual 223) 3 38 := ⟨vm_row tbX12_goBack 21 rfl, rfl⟩
theorem dX12_goBack_38 : vm_at cX12_goBack 38 (.aload_n 0) 1 39 ∧ ((0 : Fin 4) : Nat) = 0 := ⟨⟨vm_row tbX12_goBack 22 rfl, rfl⟩, rfl⟩
theorem dX12_goBack_39 : vm_at cX12_goBack 39 (.aload_n 0) 1 40 ∧ ((0 : Fin 4) : Nat) = 0 := ⟨⟨vm_row tbX12_goBack 23 rfl, rfl⟩, rfl⟩
theorem dX12_goBack_40 : vm_at cX12_goBack 40 (.getfield 32) 3 43 := ⟨vm_row tbX12_goBack 24 rfl, rfl⟩
theorem dX12_goBack_43 : vm_at cX12_goBack 43 (.bipush 9) 2 45 ∧ (Int8.ofInt (9)).toInt32 = (9 : Int32) := ⟨⟨vm_row tbX12_goBack 25 rfl, rfl⟩, z_bipush_9⟩
theorem dX12_goBack_45 : vm_at cX12_goBack 45 (.iload_n 1) 1 46 ∧ ((1 : Fin 4) : Nat) = 1 := ⟨⟨vm_row tbX12_goBack 26 rfl, rfl⟩, rfl⟩
theorem dX12_goBack_46 : vm_at cX12_goBack 46 (.imul) 1 47 := ⟨vm_row tbX12_goBack 27 rfl, rfl⟩
theorem dX12_goBack_47 : vm_at cX12_goBack 47 (.iconst 1) 1 48 ∧ Int32.ofInt (1) = (1 : Int32) := ⟨⟨vm_row tbX12_goBack 28 rfl, rfl⟩, z_iconst_1⟩
theorem dX12_goBack_48 : vm_at cX12_goBack 48 (.iadd) 1 49 := ⟨vm_row tbX12_goBack 29 rfl, rfl⟩
theorem dX12_goBack_49 : vm_at cX12_goBack 49 (.iaload) 1 50 := ⟨vm_row tbX12_goBack 30 rfl, rfl⟩
theorem dX12_goBack_50 : vm_at cX12_goBack 50 (.putfield 188) 3 53 := ⟨vm_row tbX12_goBack 31 rfl, rfl⟩
theorem dX12_goBack_53 : vm_at cX12_goBack 53 (.aload_n 0) 1 54 ∧ ((0 : Fin 4) : Nat) = 0 := ⟨⟨vm_row tbX12_goBack 32 rfl, rfl⟩, rfl⟩
theorem dX12_goBack_54 : vm_at cX12_goBack 54 (.aload_n 0) 1 55 ∧ ((0 : Fin 4) : Nat) = 0 := ⟨⟨vm_row tbX12_goBack 33 rfl, rfl⟩, rfl⟩
theorem dX12_goBack_55 : vm_at cX12_goBack 55 (.getfield 32) 3 58 := ⟨vm_row tbX12_goBack 34 rfl, rfl⟩
theorem dX12_goBack_58 : vm_at cX12_goBack 58 (.bipush 9) 2 60 ∧ (Int8.ofInt (9)).toInt32 = (9 : Int32) := ⟨⟨vm_row tbX12_goBack 35 rfl, rfl⟩, z_bipush_9⟩
theorem dX12_goBack_60 : vm_at cX12_goBack 60 (.iload_n 1) 1 61 ∧ ((1 : Fin 4) : Nat) = 1 := ⟨⟨vm_row tbX12_goBack 36 rfl, rfl⟩, rfl⟩
theorem dX12_goBack_61 : vm_at cX12_goBack 61 (.imul) 1 62 := ⟨vm_row tbX12_goBack 37 rfl, rfl⟩
theorem dX12_goBack_62 : vm_at cX12_goBack 62 (.iconst 2) 1 63 ∧ Int32.ofInt (2) = (2 : Int32) := ⟨⟨vm_row tbX12_goBack 38 rfl, rfl⟩, z_iconst_2⟩
theorem dX12_goBack_63 : vm_at cX12_goBack 63 (.iadd) 1 64 := ⟨vm_row tbX12_goBack 39 rfl, rfl⟩
theorem dX12_goBack_64 : vm_at cX12_goBack 64 (.iaload) 1 65 := ⟨vm_row tbX12_goBack 40 rfl, rfl⟩
theorem dX12_goBack_65 : vm_at cX12_goBack 65 (.putfield 191) 3 68 := ⟨vm_row tbX12_goBack 41 rfl, rfl⟩
theorem dX12_goBack_68 : vm_at cX12_goBack 68 (.iconst 0) 1 69 ∧ Int32.ofInt (0) = (0 : Int32) := ⟨⟨vm_row tbX12_goBack 42 rfl, rfl⟩, z_iconst_0⟩
theorem dX12_goBack_69 : vm_at cX12_goBack 69 (.istore_n 2) 1 70 ∧ ((2 : Fin 4) : Nat) = 2 := ⟨⟨vm_row tbX12_goBack 43 rfl, rfl⟩, rfl⟩
theorem dX12_goBack_70 : vm_at cX12_goBack 70 (.iload_n 2) 1 71 ∧ ((2 : Fin 4) : Nat) = 2 := ⟨⟨vm_row tbX12_goBack 44 rfl, rfl⟩, rfl⟩
theorem dX12_goBack_71 : vm_at cX12_goBack 71 (.bipush 6) 2 73 ∧ (Int8.ofInt (6)).toInt32 = (6 : Int32) := ⟨⟨vm_row tbX12_goBack 45 rfl, rfl⟩, z_bipush_6⟩
theorem dX12_goBack_73 : vm_br cX12_goBack 73 (.if_icmp .ge 28) 3 76 (28) 101 := ⟨vm_row tbX12_goBack 46 rfl, rfl, rfl⟩
theorem dX12_goBack_76 : vm_at cX12_goBack 76 (.aload_n 0) 1 77 ∧ ((0 : Fin 4) : Nat) = 0 := ⟨⟨vm_row tbX12_goBack 47 rfl, rfl⟩, rfl⟩
theorem dX12_goBack_77 : vm_at cX12_goBack 77 (.getfield 26) 3 80 := ⟨vm_row tbX12_goBack 48 rfl, rfl⟩
theorem dX12_goBack_80 : vm_at cX12_goBack 80 (.iload_n 2) 1 81 ∧ ((2 : Fin 4) : Nat) = 2 := ⟨⟨vm_row tbX12_goBack 49 rfl, rfl⟩, rfl⟩
theorem dX12_goBack_81 : vm_at cX12_goBack 81 (.aload_n 0) 1 82 ∧ ((0 : Fin 4) : Nat) = 0 := ⟨⟨vm_row tbX12_goBack 50 rfl, rfl⟩, rfl⟩
theorem dX12_goBack_82 : vm_at cX12_goBack 82 (.getfield 32) 3 85 := ⟨vm_row tbX12_goBack 51 rfl, rfl⟩
theorem dX12_goBack_85 : vm_at cX12_goBack 85 (.bipush 9) 2 87 ∧ (Int8.ofInt (9)).toInt32 = (9 : Int32) := ⟨⟨vm_row tbX12_goBack 52 rfl, rfl⟩, z_bipush_9⟩
theorem dX12_goBack_87 : vm_at cX12_goBack 87 (.iload_n 1) 1 88 ∧ ((1 : Fin 4) : Nat) = 1 := ⟨⟨vm_row tbX12_goBack 53 rfl, rfl⟩, rfl⟩
theorem dX12_goBack_88 : vm_at cX12_goBack 88 (.imul) 1 89 := ⟨vm_row tbX12_goBack 54 rfl, rfl⟩
theorem dX12_goBack_89 : vm_at cX12_goBack 89 (.iconst 3) 1 90 ∧ Int32.ofInt (3) = (3 : Int32) := ⟨⟨vm_row tbX12_goBack 55 rfl, rfl⟩, z_iconst_3⟩
theorem dX12_goBack_90 : vm_at cX12_goBack 90 (.iadd) 1 91 := ⟨vm_row tbX12_goBack 56 rfl, rfl⟩
theorem dX12_goBack_91 : vm_at cX12_goBack 91 (.iload_n 2) 1 92 ∧ ((2 : Fin 4) : Nat) = 2 := ⟨⟨vm_row tbX12_goBack 57 rfl, rfl⟩, rfl⟩
theorem dX12_goBack_92 : vm_at cX12_goBack 92 (.iadd) 1 93 := ⟨vm_row tbX12_goBack 58 rfl, rfl⟩
theorem dX12_goBack_93 : vm_at cX12_goBack 93 (.iaload) 1 94 := ⟨vm_row tbX12_goBack 59 rfl, rfl⟩
theorem dX12_goBack_94 : vm_at cX12_goBack 94 (.iastore) 1 95 := ⟨vm_row tbX12_goBack 60 rfl, rfl⟩
theorem dX12_goBack_95 : vm_at cX12_goBack 95 (.iinc 2 1) 3 98 ∧ Int32.ofInt (1) = (1 : Int32) := ⟨⟨vm_row tbX12_goBack 61 rfl, rfl⟩, z_iconst_1⟩
theorem dX12_goBack_98 : vm_br cX12_goBack 98 (.goto (-28)) 3 101 (-28) 70 := ⟨vm_row tbX12_goBack 62 rfl, rfl, rfl⟩
theorem dX12_goBack_101 : vm_at cX12_goBack 101 (.aload_n 0) 1 102 ∧ ((0 : Fin 4) : Nat) = 0 := ⟨⟨vm_row tbX12_goBack 63 rfl, rfl⟩, rfl⟩
theorem dX12_goBack_102 : vm_at cX12_goBack 102 (.aload_n 0) 1 103 ∧ ((0 : Fin 4) : Nat) = 0 := ⟨⟨vm_row tbX12_goBack 64 rfl, rfl⟩, rfl⟩
theorem dX12_goBack_103 : vm_at cX12_goBack 103 (.getfield 35) 3 106 := ⟨vm_row tbX12_goBack 65 rfl, rfl⟩
theorem dX12_goBack_106 : vm_at cX12_goBack 106 (.iload_n 1) 1 107 ∧ ((1 : Fin 4) : Nat) = 1 := ⟨⟨vm_row tbX12_goBack 66 rfl, rfl⟩, rfl⟩
theorem dX12_goBack_107 : vm_at cX12_goBack 107 (.laload) 1 108 := ⟨vm_row tbX12_goBack 67 rfl, rfl⟩
theorem dX12_goBack_108 : vm_at cX12_goBack 108 (.putfield 299) 3 111 := ⟨vm_row tbX12_goBack 68 rfl, rfl⟩
theorem dX12_goBack_111 : vm_at cX12_goBack 111 (.iconst 1) 1 112 ∧ Int32.ofInt (1) = (1 : Int32) := ⟨⟨vm_row tbX12_goBack 69 rfl, rfl⟩, z_iconst_1⟩
theorem dX12_goBack_112 : vm_at cX12_goBack 112 (.ireturn) 1 113 := ⟨vm_row tbX12_goBack 70 rfl, rfl⟩
