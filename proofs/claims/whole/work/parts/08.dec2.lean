def tlX9_append : List (Nat × Instr × Nat) := [(0, .aload_n 0, 1), (1, .getfield 15, 3), (4, .ifCond .lt 35, 3), (7, .aload_n 0, 1), (8, .getfield 15, 3), (11, .aload_n 0, 1), (12, .getfield 9, 3), (15, .arraylength, 1), (16, .if_icmp .ge 23, 3), (19, .aload_n 0, 1), (20, .getfield 9, 3), (23, .aload_n 0, 1), (24, .getfield 15, 3), (27, .iload_n 1, 1), (28, .iastore, 1), (29, .aload_n 0, 1), (30, .dup, 1), (31, .getfield 15, 3), (34, .iconst 1, 1), (35, .iadd, 1), (36, .putfield 15, 3), (39, .return_, 1)]
theorem tbX9_append : vm_chk cX9_append tlX9_append = true := by decide +kernel
theorem dX9_append_0 : vm_at cX9_append 0 (.aload_n 0) 1 1 ∧ ((0 : Fin 4) : Nat) = 0 := ⟨⟨vm_row tbX9_append 0 rfl, rfl⟩, rfl⟩
theorem dX9_append_1 : vm_at cX9_append 1 (.getfield 15) 3 4 := ⟨vm_row tbX9_append 1 rfl, rfl⟩
theorem dX9_append_4 : vm_br cX9_append 4 (.ifCond .lt 35) 3 7 (35) 39 := ⟨vm_row tbX9_append 2 rfl, rfl, rfl⟩
theorem dX9_append_7 : vm_at cX9_append 7 (.aload_n 0) 1 8 ∧ ((0 : Fin 4) : Nat) = 0 := ⟨⟨vm_row tbX9_append 3 rfl, rfl⟩, rfl⟩
theorem dX9_append_8 : vm_at cX9_append 8 (.getfield 15) 3 11 := ⟨vm_row tbX9_append 4 rfl, rfl⟩
theorem dX9_append_11 : vm_at cX9_append 11 (.aload_n 0) 1 12 ∧ ((0 : Fin 4) : Nat) = 0 := ⟨⟨vm_row tbX9_append 5 rfl, rfl⟩, rfl⟩
theorem dX9_append_12 : vm_at cX9_append 12 (.getfield 9) 3 15 := ⟨vm_row tbX9_append 6 rfl, rfl⟩
theorem dX9_append_15 : vm_at cX9_append 15 (.arraylength) 1 16 := ⟨vm_row tbX9_append 7 rfl, rfl⟩
theorem dX9_append_16 : vm_br cX9_append 16 (.if_icmp .ge 23) 3 19 (23) 39 := ⟨vm_row tbX9_append 8 rfl, rfl, rfl⟩
theorem dX9_append_19 : vm_at cX9_append 19 (.aload_n 0) 1 20 ∧ ((0 : Fin 4) : Nat) = 0 := ⟨⟨vm_row tbX9_append 9 rfl, rfl⟩, rfl⟩
theorem dX9_append_20 : vm_at cX9_append 20 (.getfield 9) 3 23 := ⟨vm_row tbX9_append 10 rfl, rfl⟩
theorem dX9_append_23 : vm_at cX9_append 23 (.aload_n 0) 1 24 ∧ ((0 : Fin 4) : Nat) = 0 := ⟨⟨vm_row tbX9_append 11 rfl, rfl⟩, rfl⟩
theorem dX9_append_24 : vm_at cX9_append 24 (.getfield 15) 3 27 := ⟨vm_row tbX9_append 12 rfl, rfl⟩
theorem dX9_append_27 : vm_at cX9_append 27 (.iload_n 1) 1 28 ∧ ((1 : Fin 4) : Nat) = 1 := ⟨⟨vm_row tbX9_append 13 rfl, rfl⟩, rfl⟩
theorem dX9_append_28 : vm_at cX9_append 28 (.iastore) 1 29 := ⟨vm_row tbX9_append 14 rfl, rfl⟩
theorem dX9_append_29 : vm_at cX9_append 29 (.aload_n 0) 1 30 ∧ ((0 : Fin 4) : Nat) = 0 := ⟨⟨vm_row tbX9_append 15 rfl, rfl⟩, rfl⟩
theorem dX9_append_30 : vm_at cX9_append 30 (.dup) 1 31 := ⟨vm_row tbX9_append 16 rfl, rfl⟩
theorem dX9_append_31 : vm_at cX9_append 31 (.getfield 15) 3 34 := ⟨vm_row tbX9_append 17 rfl, rfl⟩
theorem dX9_append_34 : vm_at cX9_append 34 (.iconst 1) 1 35 ∧ Int32.ofInt (1) = (1 : Int32) := ⟨⟨vm_row tbX9_append 18 rfl, rfl⟩, z_iconst_1⟩
theorem dX9_append_35 : vm_at cX9_append 35 (.iadd) 1 36 := ⟨vm_row tbX9_append 19 rfl, rfl⟩
theorem dX9_append_36 : vm_at cX9_append 36 (.putfield 15) 3 39 := ⟨vm_row tbX9_append 20 rfl, rfl⟩
theorem dX9_append_39 : vm_at cX9_append 39 (.return_) 1 40 := ⟨vm_row tbX9_append 21 rfl, rfl⟩
def tlX9_read : List (Nat × Instr × Nat) := [(0, .aload_n 1, 1), (1, .invokevirtual 37, 3), (4, .aload_n 0, 1), (5, .iconst 0, 1), (6, .putfield 19, 3), (9, .aload_n 0, 1), (10, .iconst (-1), 1), (11, .putfield 22, 3), (14, .aload_n 0, 1), (15, .iconst 0, 1), (16, .putfield 25, 3), (19, .aload_n 0, 1), (20, .invokevirtual 42, 3), (23, .aload_n 0, 1), (24, .getfield 25, 3), (27, .aload_n 0, 1), (28, .getfield 15, 3), (31, .if_icmp .lt 5, 3), (34, .iconst 1, 1), (35, .ireturn, 1), (36, .aload_n 0, 1), (37, .aload_n 1, 1), (38, .invokevirtual 45, 3), (41, .ifCond .ne 5, 3), (44, .iconst 0, 1), (45, .ireturn, 1), (46, .iconst 0, 1), (47, .istore_n 2, 1), (48, .iload_n 2, 1), (49, .bipush 8, 2), (51, .if_icmp .gt 36, 3), (54, .aload_n 0, 1), (55, .invokevirtual 42, 3), (58, .aload_n 0, 1), (59, .getfield 25, 3), (62, .aload_n 0, 1), (63, .getfield 15, 3), (66, .if_icmp .lt 5, 3), (69, .iconst 1, 1), (70, .ireturn, 1), (71, .aload_n 0, 1), (72, .aload_n 1, 1), (73, .invokevirtual 49, 3), (76, .ifCond .ne 5, 3), (79, .iconst 0, 1), (80, .ireturn, 1), (81, .iinc 2 1, 3), (84, .goto (-36), 3), (87, .iconst 0, 1), (88, .ireturn, 1)]
theorem tbX9_read : vm_chk cX9_read tlX9_read = true := by decide +kernel
theorem dX9_read_0 : vm_at cX9_read 0 (.aload_n 1) 1 1 ∧ ((1 : Fin 4) : Nat) = 1 := ⟨⟨vm_row tbX9_read 0 rfl, rfl⟩, rfl⟩
theorem dX9_read_1 : vm_at cX9_read 1 (.invokevirtual 37) 3 4 := ⟨vm_row tbX9_read 1 rfl, rfl⟩
theorem dX9_read_4 : vm_at cX9_read 4 (.aload_n 0) 1 5 ∧ ((0 : Fin 4) : Nat) = 0 := ⟨⟨vm_row tbX9_read 2 rfl, rfl⟩, rfl⟩
theorem dX9_read_5 : vm_at cX9_read 5 (.iconst 0) 1 6 ∧ Int32.ofInt (0) = (0 : Int32) := ⟨⟨vm_row tbX9_read 3 rfl, rfl⟩, z_iconst_0⟩
theorem dX9_read_6 : vm_at cX9_read 6 (.putfield 19) 3 9 := ⟨vm_row tbX9_read 4 rfl, rfl⟩
theorem dX9_read_9 : vm_at cX9_read 9 (.aload_n 0) 1 10 ∧ ((0 : Fin 4) : Nat) = 0 := ⟨⟨vm_row tbX9_read 5 rfl, rfl⟩, rfl⟩
theorem dX9_read_10 : vm_at cX9_read 10 (.iconst (-1)) 1 11 ∧ Int32.ofInt (-1) = (-1 : Int32) := ⟨⟨vm_row tbX9_read 6 rfl, rfl⟩, z_iconst_m1⟩
theorem dX9_read_11 : vm_at cX9_read 11 (.putfield 22) 3 14 := ⟨vm_row tbX9_read 7 rfl, rfl⟩
theorem dX9_read_14 : vm_at cX9_read 14 (.aload_n 0) 1 15 ∧ ((0 : Fin 4) : Nat) = 0 := ⟨⟨vm_row tbX9_read 8 rfl, rfl⟩, rfl⟩
theorem dX9_read_15 : vm_at cX9_read 15 (.iconst 0) 1 16 ∧ Int32.ofInt (0) = (0 : Int32) := ⟨⟨vm_row tbX9_read 9 rfl, rfl⟩, z_iconst_0⟩
theorem dX9_read_16 : vm_at cX9_read 16 (.putfield 25) 3 19 := ⟨vm_row tbX9_read 10 rfl, rfl⟩
theorem dX9_read_19 : vm_at cX9_read 19 (.aload_n 0) 1 20 ∧ ((0 : Fin 4) : Nat) = 0 := ⟨⟨vm_row tbX9_read 11 rfl, rfl⟩, rfl⟩
theorem dX9_read_20 : vm_at cX9_read 20 (.invokevirtual 42) 3 23 := ⟨vm_row tbX9_read 12 rfl, rfl⟩
theorem dX9_read_23 : vm_at cX9_read 23 (.aload_n 0) 1 24 ∧ ((0 : Fin 4) : Nat) = 0 := ⟨⟨vm_row tbX9_read 13 rfl, rfl⟩, rfl⟩
theorem dX9_read_24 : vm_at cX9_read 24 (.getfield 25) 3 27 := ⟨vm_row tbX9_read 14 rfl, rfl⟩
theorem dX9_read_27 : vm_at cX9_read 27 (.aload_n 0) 1 28 ∧ ((0 : Fin 4) : Nat) = 0 := ⟨⟨vm_row tbX9_read 15 rfl, rfl⟩, rfl⟩
theorem dX9_read_28 : vm_at cX9_read 28 (.getfield 15) 3 31 := ⟨vm_row tbX9_read 16 rfl, rfl⟩
theorem dX9_read_31 : vm_br cX9_read 31 (.if_icmp .lt 5) 3 34 (5) 36 := ⟨vm_row tbX9_read 17 rfl, rfl, rfl⟩
theorem dX9_read_34 : vm_at cX9_read 34 (.iconst 1) 1 35 ∧ Int32.ofInt (1) = (1 : Int32) := ⟨⟨vm_row tbX9_read 18 rfl, rfl⟩, z_iconst_1⟩
theorem dX9_read_35 : vm_at cX9_read 35 (.ireturn) 1 36 := ⟨vm_row tbX9_read 19 rfl, rfl⟩
theorem dX9_read_36 : vm_at cX9_read 36 (.aload_n 0) 1 37 ∧ ((0 : Fin 4) : Nat) = 0 := ⟨⟨vm_row tbX9_read 20 rfl, rfl⟩, rfl⟩
theorem dX9_read_37 : vm_at cX9_read 37 (.aload_n 1) 1 38 ∧ ((1 : Fin 4) : Nat) = 1 := ⟨⟨vm_row tbX9_read 21 rfl, rfl⟩, rfl⟩
theorem dX9_read_38 : vm_at cX9_read 38 (.invokevirtual 45) 3 41 := ⟨vm_row tbX9_read 22 rfl, rfl⟩
theorem dX9_read_41 : vm_br cX9_read 41 (.ifCond .ne 5) 3 44 (5) 46 := ⟨vm_row tbX9_read 23 rfl, rfl, rfl⟩
theorem dX9_read_44 : vm_at cX9_read 44 (.iconst 0) 1 45 ∧ Int32.ofInt (0) = (0 : Int32) := ⟨⟨vm_row tbX9_read 24 rfl, rfl⟩, z_iconst_0⟩
theorem dX9_read_45 : vm_at cX9_read 45 (.ireturn) 1 46 := ⟨vm_row tbX9_read 25 rfl, rfl⟩
theorem dX9_read_46 : vm_at cX9_read 46 (.iconst 0) 1 47 ∧ Int32.ofInt (0) = (0 : Int32) := ⟨⟨vm_row tbX9_read 26 rfl, rfl⟩, z_iconst_0⟩
theorem dX9_read_47 : vm_at cX9_read 47 (.istore_n 2) 1 48 ∧ ((2 : Fin 4) : Nat) = 2 := ⟨⟨vm_row tbX9_read 27 rfl, rfl⟩, rfl⟩
theorem dX9_read_48 : vm_at cX9_read 48 (.iload_n 2) 1 49 ∧ ((2 : Fin 4) : Nat) = 2 := ⟨⟨vm_row tbX9_read 28 rfl, rfl⟩, rfl⟩
theorem dX9_read_49 : vm_at cX9_read 49 (.bipush 8) 2 51 ∧ (Int8.ofInt (8)).toInt32 = (8 : Int32) := ⟨⟨vm_row tbX9_read 29 rfl, rfl⟩, z_bipush_8⟩
theorem dX9_read_51 : vm_br cX9_read 51 (.if_icmp .gt 36) 3 54 (36) 87 := ⟨vm_row tbX9_read 30 rfl, rfl, rfl⟩
theorem dX9_read_54 : vm_at cX9_read 54 (.aload_n 0) 1 55 ∧ ((0 : Fin 4) : Nat) = 0 := ⟨⟨vm_row tbX9_read 31 rfl, rfl⟩, rfl⟩
theorem dX9_read_55 : vm_at cX9_read 55 (.invokevirtual 42) 3 58 := ⟨vm_row tbX9_read 32 rfl, rfl⟩
theorem dX9_read_58 : vm_at cX9_read 58 (.aload_n 0) 1 59 ∧ ((0 : Fin 4) : Nat) = 0 := ⟨⟨vm_row tbX9_read 33 rfl, rfl⟩, rfl⟩
theorem dX9_read_59 : vm_at cX9_read 59 (.getfield 25) 3 62 := ⟨vm_row tbX9_read 34 rfl, rfl⟩
theorem dX9_read_62 : vm_at cX9_read 62 (.aload_n 0) 1 63 ∧ ((0 : Fin 4) : Nat) = 0 := ⟨⟨vm_row tbX9_read 35 rfl, rfl⟩, rfl⟩
theorem dX9_read_63 : vm_at cX9_read 63 (.getfield 15) 3 66 := ⟨vm_row tbX9_read 36 rfl, rfl⟩
theorem dX9_read_66 : vm_br cX9_read 66 (.if_icmp .lt 5) 3 69 (5) 71 := ⟨vm_row tbX9_read 37 rfl, rfl, rfl⟩
theorem dX9_read_69 : vm_at cX9_read 69 (.iconst 1) 1 70 ∧ Int32.ofInt (1) = (1 : Int32) := ⟨⟨vm_row tbX9_read 38 rfl, rfl⟩, z_iconst_1⟩
theorem dX9_read_70 : vm_at cX9_read 70 (.ireturn) 1 71 := ⟨vm_row tbX9_read 39 rfl, rfl⟩
theorem dX9_read_71 : vm_at cX9_read 71 (.aload_n 0) 1 72 ∧ ((0 : Fin 4) : Nat) = 0 := ⟨⟨vm_row tbX9_read 40 rfl, rfl⟩, rfl⟩
theorem dX9_read_72 : vm_at cX9_read 72 (.aload_n 1) 1 73 ∧ ((1 : Fin 4) : Nat) = 1 := ⟨⟨vm_row tbX9_read 41 rfl, rfl⟩, rfl⟩
theorem dX9_read_73 : vm_at cX9_read 73 (.invokevirtual 49) 3 76 := ⟨vm_row tbX9_read 42 rfl, rfl⟩
theorem dX9_read_76 : vm_br cX9_read 76 (.ifCond .ne 5) 3 79 (5) 81 := ⟨vm_row tbX9_read 43 rfl, rfl, rfl⟩
theorem dX9_read_79 : vm_at cX9_read 79 (.iconst 0) 1 80 ∧ Int32.ofInt (0) = (0 : Int32) := ⟨⟨vm_row tbX9_read 44 rfl, rfl⟩, z_iconst_0⟩
theorem dX9_read_80 : vm_at cX9_read 80 (.ireturn) 1 81 := ⟨vm_row tbX9_read 45 rfl, rfl⟩
theorem dX9_read_81 : vm_at cX9_read 81 (.iinc 2 1) 3 84 ∧ Int32.ofInt (1) = (1 : Int32) := ⟨⟨vm_row tbX9_read 46 rfl, rfl⟩, z_iconst_1⟩
theorem dX9_read_84 : vm_br cX9_read 84 (.goto (-36)) 3 87 (-36) 48 := ⟨vm_row tbX9_read 47 rfl, rfl, rfl⟩
theorem dX9_read_87 : vm_at cX9_read 87 (.iconst 0) 1 88 ∧ Int32.ofInt (0) = (0 : Int32) := ⟨⟨vm_row tbX9_read 48 rfl, rfl⟩, z_iconst_0⟩
theorem dX9_read_88 : vm_at cX9_read 88 (.ireturn) 1 89 := ⟨vm_row tbX9_read 49 rfl, rfl⟩
def tlX9_readDial : List (Nat × Instr × Nat) := [(0, .aload_n 0, 1), (1, .invokevirtual 52, 3), (4, .aload_n 0, 1), (5, .ldc 55, 2), (7, .invokevirtual 57, 3), (10, .ifCond .ne 13, 3), (13, .aload_n 0, 1), (14, .iconst 1, 1), (15, .aload_n 0, 1), (16, .getfield 28, 3), (19, .invokevirtual 61, 3), (22, .ireturn, 1), (23, .aload_n 0, 1), (24, .invokevirtual 52, 3), (27, .aload_n 0, 1), (28, .ldc 65, 2), (30, .invokevirtual 57, 3), (33, .ifCond .eq 7, 3), (36, .iconst 0, 1), (37, .goto 17, 3), (40, .aload_n 0, 1), (41, .ldc 67, 2), (43, .invokevirtual 57, 3), (46, .ifCond .eq 7, 3), (49, .iconst 1, 1), (50, .goto 4, 3), (53, .iconst (-1), 1), (54, .istore_n 2, 1), (55, .iload_n 2, 1), (56, .iconst (-1), 1), (57, .if_icmp .ne 13, 3), (60, .aload_n 0, 1), (61, .iconst 1, 1), (62, .aload_n 0, 1), (63, .getfield 28, 3), (66, .invokevirtual 61, 3), (69, .ireturn, 1), (70, .aload_n 0, 1), (71, .iconst 2, 1), (72, .bipush 10, 2), (74, .invokevirtual 69, 3), (77, .ifCond .ne 5, 3), (80, .iconst 0, 1), (81, .ireturn, 1), (82, .aload_n 0, 1), (83, .getfield 34, 3), (86, .istore_n 3, 1), (87, .aload_n 0, 1), (88, .iconst 1, 1), (89, .bipush 6, 2), (91, .invokevirtual 69, 3), (94, .ifCond .ne 5, 3), (97, .iconst 0, 1), (98, .ireturn, 1), (99, .aload_n 0, 1), (100, .getfield 34, 3), (103, .istore 4, 2), (105, .iconst 1, 1), (106, .istore 5, 2), (108, .iconst 0, 1), (109, .istore 6, 2), (111, .iload 6, 2), (113, .iload 4, 2), (115, .if_icmp .ge 15, 3), (118, .iload 5, 2), (120, .iload_n 3, 1), (121, .imul, 1), (122, .istore 5, 2), (124, .iinc 6 1, 3), (127, .goto (-16), 3), (130, .iload 5, 2), (132, .bipush 100, 2), (134, .if_icmp .le 13, 3), (137, .aload_n 0, 1), (138, .iconst 2, 1), (139, .aload_n 0, 1), (140, .getfield 31, 3), (143, .invokevirtual 61, 3), (146, .ireturn, 1), (147, .aload_n 1, 1), (148, .iload_n 2, 1), (149, .iload_n 3, 1), (150, .iload 4, 2), (152, .iload 5, 2), (154, .invokevirtual 72, 3), (157, .aload_n 0, 1), (158, .invokevirtual 76, 3), (161, .ireturn, 1)]
theorem tbX9_readDial : vm_chk cX9_readDial tlX9_readDial = true := by decide +kernel
theorem dX9_readDial_0 : vm_at cX9_readDial 0 (.aload_n 0) 1 1 ∧ ((0 : Fin 4) : Nat) = 0 := ⟨⟨vm_row tbX9_readDial 0 rfl, rfl⟩, rfl⟩
theorem dX9_readDial_1 : vm_at cX9_readDial 1 (.invokevirtual 52) 3 4 := ⟨vm_row tbX9_readDial 1 rfl, rfl⟩
theorem dX9_readDial_4 : vm_at cX9_readDial 4 (.aload_n 0) 1 5 ∧ ((0 : Fin 4) : Nat) = 0 := ⟨⟨vm_row tbX9_readDial 2 rfl, rfl⟩, rfl⟩
theorem dX9_readDial_5 : vm_at cX9_readDial 5 (.ldc 55) 2 7 := ⟨vm_row tbX9_readDial 3 rfl, rfl⟩
theorem dX9_readDial_7 : vm_at cX9_readDial 7 (.invokevirtual 57) 3 10 := ⟨vm_row tbX9_readDial 4 rfl, rfl⟩
theorem dX9_readDial_10 : vm_br cX9_readDial 10 (.ifCond .ne 13) 3 13 (13) 23 := ⟨vm_row tbX9_readDial 5 rfl, rfl, rfl⟩
theorem dX9_readDial_13 : vm_at cX9_readDial 13 (.aload_n 0) 1 14 ∧ ((0 : Fin 4) : Nat) = 0 := ⟨⟨vm_row tbX9_readDial 6 rfl, rfl⟩, rfl⟩
theorem dX9_readDial_14 : vm_at cX9_readDial 14 (.iconst 1) 1 15 ∧ Int32.ofInt (1) = (1 : Int32) := ⟨⟨vm_row tbX9_readDial 7 rfl, rfl⟩, z_iconst_1⟩
theorem dX9_readDial_15 : vm_at cX9_readDial 15 (.aload_n 0) 1 16 ∧ ((0 : Fin 4) : Nat) = 0 := ⟨⟨vm_row tbX9_readDial 8 rfl, rfl⟩, rfl⟩
theorem dX9_readDial_16 : vm_at cX9_readDial 16 (.getfield 28) 3 19 := ⟨vm_row tbX9_readDial 9 rfl, rfl⟩
theorem dX9_readDial_19 : vm_at cX9_readDial 19 (.invokevirtual 61) 3 22 := ⟨vm_row tbX9_readDial 10 rfl, rfl⟩
theorem dX9_readDial_22 : vm_at cX9_readDial 22 (.ireturn) 1 23 := ⟨vm_row tbX9_readDial 11 rfl, rfl⟩
theorem dX9_readDial_23 : vm_at cX9_readDial 23 (.aload_n 0) 1 24 ∧ ((0 : Fin 4) : Nat) = 0 := ⟨⟨vm_row tbX9_readDial 12 rfl, rfl⟩, rfl⟩
theorem dX9_readDial_24 : vm_at cX9_readDial 24 (.invokevirtual 52) 3 27 := ⟨vm_row tbX9_readDial 13 rfl, rfl⟩
theorem dX9_readDial_27 : vm_at cX9_readDial 27 (.aload_n 0) 1 28 ∧ ((0 : Fin 4) : Nat) = 0 := ⟨⟨vm_row tbX9_readDial 14 rfl, rfl⟩, rfl⟩
theorem dX9_readDial_28 : vm_at cX9_readDial 28 (.ldc 65) 2 30 := ⟨vm_row tbX9_readDial 15 rfl, rfl⟩
theorem dX9_readDial_30 : vm_at cX9_readDial 30 (.invokevirtual 57) 3 33 := ⟨vm_row tbX9_readDial 16 rfl, rfl⟩
theorem dX9_readDial_33 : vm_br cX9_readDial 33 (.ifCond .eq 7) 3 36 (7) 40 := ⟨vm_row tbX9_readDial 17 rfl, rfl, rfl⟩
theorem dX9_readDial_36 : vm_at cX9_readDial 36 (.iconst 0) 1 37 ∧ Int32.ofInt (0) = (0 : Int32) := ⟨⟨vm_row tbX9_readDial 18 rfl, rfl⟩, z_iconst_0⟩
theorem dX9_readDial_37 : vm_br cX9_readDial 37 (.goto 17) 3 40 (17) 54 := ⟨vm_row tbX9_readDial 19 rfl, rfl, rfl⟩
theorem dX9_readDial_40 : vm_at cX9_readDial 40 (.aload_n 0) 1 41 ∧ ((0 : Fin 4) : Nat) = 0 := ⟨⟨vm_row tbX9_readDial 20 rfl, rfl⟩, rfl⟩
theorem dX9_readDial_41 : vm_at cX9_readDial 41 (.ldc 67) 2 43 := ⟨vm_row tbX9_readDial 21 rfl, rfl⟩
theorem dX9_readDial_43 : vm_at cX9_readDial 43 (.invokevirtual 57) 3 46 := ⟨vm_row tbX9_readDial 22 rfl, rfl⟩
theorem dX9_readDial_46 : vm_br cX9_readDial 46 (.ifCond .eq 7) 3 49 (7) 53 := ⟨vm_row tbX9_readDial 23 rfl, rfl, rfl⟩
theorem dX9_readDial_49 : vm_at cX9_readDial 49 (.iconst 1) 1 50 ∧ Int32.ofInt (1) = (1 : Int32) := ⟨⟨vm_row tbX9_readDial 24 rfl, rfl⟩, z_iconst_1⟩
theorem dX9_readDial_50 : vm_br cX9_readDial 50 (.goto 4) 3 53 (4) 54 := ⟨vm_row tbX9_readDial 25 rfl, rfl, rfl⟩
theorem dX9_readDial_53 : vm_at cX9_readDial 53 (.iconst (-1)) 1 54 ∧ Int32.ofInt (-1) = (-1 : Int32) := ⟨⟨vm_row tbX9_readDial 26 rfl, rfl⟩, z_iconst_m1⟩
theorem dX9_readDial_54 : vm_at cX9_readDial 54 (.istore_n 2) 1 55 ∧ ((2 : Fin 4) : Nat) = 2 := ⟨⟨vm_row tbX9_readDial 27 rfl, rfl⟩, rfl⟩
theorem dX9_readDial_55 : vm_at cX9_readDial 55 (.iload_n 2) 1 56 ∧ ((2 : Fin 4) : Nat) = 2 := ⟨⟨vm_row tbX9_readDial 28 rfl, rfl⟩, rfl⟩
theorem dX9_readDial_56 : vm_at cX9_readDial 56 (.iconst (-1)) 1 57 ∧ Int32.ofInt (-1) = (-1 : Int32) := ⟨⟨vm_row tbX9_readDial 29 rfl, rfl⟩, z_iconst_m1⟩
theorem dX9_readDial_57 : vm_br cX9_readDial 57 (.if_icmp .ne 13) 3 60 (13) 70 := ⟨vm_row tbX9_readDial 30 rfl, rfl, rfl⟩
theorem dX9_readDial_60 : vm_at cX9_readDial 60 (.aload_n 0) 1 61 ∧ ((0 : Fin 4) : Nat) = 0 := ⟨⟨vm_row tbX9_readDial 31 rfl, rfl⟩, rfl⟩
theorem dX9_readDial_61 : vm_at cX9_readDial 61 (.iconst 1) 1 62 ∧ Int32.ofInt (1) = (1 : Int32) := ⟨⟨vm_row tbX9_readDial 32 rfl, rfl⟩, z_iconst_1⟩
theorem dX9_readDial_62 : vm_at cX9_readDial 62 (.aload_n 0) 1 63 ∧ ((0 : Fin 4) : Nat) = 0 := ⟨⟨vm_row tbX9_readDial 33 rfl, rfl⟩, rfl⟩
theorem dX9_readDial_63 : vm_at cX9_readDial 63 (.getfield 28) 3 66 := ⟨vm_row tbX9_readDial 34 rfl, rfl⟩
theorem dX9_readDial_66 : vm_at cX9_readDial 66 (.invokevirtual 61) 3 69 := ⟨vm_row tbX9_readDial 35 rfl, rfl⟩
theorem dX9_readDial_69 : vm_at cX9_readDial 69 (.ireturn) 1 70 := ⟨vm_row tbX9_readDial 36 rfl, rfl⟩
theorem dX9_readDial_70 : vm_at cX9_readDial 70 (.aload_n 0) 1 71 ∧ ((0 : Fin 4) : Nat) = 0 := ⟨⟨vm_row tbX9_readDial 37 rfl, rfl⟩, rfl⟩
theorem dX9_readDial_71 : vm_at cX9_readDial 71 (.iconst 2) 1 72 ∧ Int32.ofInt (2) = (2 : Int32) := ⟨⟨vm_row tbX9_readDial 38 rfl, rfl⟩, z_iconst_2⟩
theorem dX9_readDial_72 : vm_at cX9_readDial 72 (.bipush 10) 2 74 ∧ (Int8.ofInt (10)).toInt32 = (10 : Int32) := ⟨⟨vm_row tbX9_readDial 39 rfl, rfl⟩, z_bipush_10⟩
theorem dX9_readDial_74 : vm_at cX9_readDial 74 (.invokevirtual 69) 3 77 := ⟨vm_row tbX9_readDial 40 rfl, rfl⟩
theorem dX9_readDial_77 : vm_br cX9_readDial 77 (.ifCond .ne 5) 3 80 (5) 82 := ⟨vm_row tbX9_readDial 41 rfl, rfl, rfl⟩
theorem dX9_readDial_80 : vm_at cX9_readDial 80 (.iconst 0) 1 81 ∧ Int32.ofInt (0) = (0 : Int32) := ⟨⟨vm_row tbX9_readDial 42 rfl, rfl⟩, z_iconst_0⟩
theorem dX9_readDial_81 : vm_at cX9_readDial 81 (.ireturn) 1 82 := ⟨vm_row tbX9_readDial 43 rfl, rfl⟩
theorem dX9_readDial_82 : vm_at cX9_readDial 82 (.aload_n 0) 1 83 ∧ ((0 : Fin 4) : Nat) = 0 := ⟨⟨vm_row tbX9_readDial 44 rfl, rfl⟩, rfl⟩
theorem dX9_readDial_83 : vm_at cX9_readDial 83 (.getfield 34) 3 86 := ⟨vm_row tbX9_readDial 45 rfl, rfl⟩
theorem dX9_readDial_86 : vm_at cX9_readDial 86 (.istore_n 3) 1 87 ∧ ((3 : Fin 4) : Nat) = 3 := ⟨⟨vm_row tbX9_readDial 46 rfl, rfl⟩, rfl⟩
theorem dX9_readDial_87 : vm_at cX9_readDial 87 (.aload_n 0) 1 88 ∧ ((0 : Fin 4) : Nat) = 0 := ⟨⟨vm_row tbX9_readDial 47 rfl, rfl⟩, rfl⟩
theorem dX9_readDial_88 : vm_at cX9_readDial 88 (.iconst 1) 1 89 ∧ Int32.ofInt (1) = (1 : Int32) := ⟨⟨vm_row tbX9_readDial 48 rfl, rfl⟩, z_iconst_1⟩
theorem dX9_readDial_89 : vm_at cX9_readDial 89 (.bipush 6) 2 91 ∧ (Int8.ofInt (6)).toInt32 = (6 : Int32) := ⟨⟨vm_row tbX9_readDial 49 rfl, rfl⟩, z_bipush_6⟩
theorem dX9_readDial_91 : vm_at cX9_readDial 91 (.invokevirtual 69) 3 94 := ⟨vm_row tbX9_readDial 50 rfl, rfl⟩
theorem dX9_readDial_94 : vm_br cX9_readDial 94 (.ifCond .ne 5) 3 97 (5) 99 := ⟨vm_row tbX9_readDial 51 rfl, rfl, rfl⟩
theorem dX9_readDial_97 : vm_at cX9_readDial 97 (.iconst 0) 1 98 ∧ Int32.ofInt (0) = (0 : Int32) := ⟨⟨vm_row tbX9_readDial 52 rfl, rfl⟩, z_iconst_0⟩
theorem dX9_readDial_98 : vm_at cX9_readDial 98 (.ireturn) 1 99 := ⟨vm_row tbX9_readDial 53 rfl, rfl⟩
theorem dX9_readDial_99 : vm_at cX9_readDial 99 (.aload_n 0) 1 100 ∧ ((0 : Fin 4) : Nat) = 0 := ⟨⟨vm_row tbX9_readDial 54 rfl, rfl⟩, rfl⟩
theorem dX9_readDial_100 : vm_at cX9_readDial 100 (.getfield 34) 3 103 := ⟨vm_row tbX9_readDial 55 rfl, rfl⟩
theorem dX9_readDial_103 : vm_at cX9_readDial 103 (.istore 4) 2 105 := ⟨vm_row tbX9_readDial 56 rfl, rfl⟩
theorem dX9_readDial_105 : vm_at cX9_readDial 105 (.iconst 1) 1 106 ∧ Int32.ofInt (1) = (1 : Int32) := ⟨⟨vm_row tbX9_readDial 57 rfl, rfl⟩, z_iconst_1⟩
theorem dX9_readDial_106 : vm_at cX9_readDial 106 (.istore 5) 2 108 := ⟨vm_row tbX9_readDial 58 rfl, rfl⟩
theorem dX9_readDial_108 : vm_at cX9_readDial 108 (.iconst 0) 1 109 ∧ Int32.ofInt (0) = (0 : Int32) := ⟨⟨vm_row tbX9_readDial 59 rfl, rfl⟩, z_iconst_0⟩
theorem dX9_readDial_109 : vm_at cX9_readDial 109 (.istore 6) 2 111 := ⟨vm_row tbX9_readDial 60 rfl, rfl⟩
theorem dX9_readDial_111 : vm_at cX9_readDial 111 (.iload 6) 2 113 := ⟨vm_row tbX9_readDial 61 rfl, rfl⟩
theorem dX9_readDial_113 : vm_at cX9_readDial 113 (.iload 4) 2 115 := ⟨vm_row tbX9_readDial 62 rfl, rfl⟩
theorem dX9_readDial_115 : vm_br cX9_readDial 115 (.if_icmp .ge 15) 3 118 (15) 130 := ⟨vm_row tbX9_readDial 63 rfl, rfl, rfl⟩
theorem dX9_readDial_118 : vm_at cX9_readDial 118 (.iload 5) 2 120 := ⟨vm_row tbX9_readDial 64 rfl, rfl⟩
theorem dX9_readDial_120 : vm_at cX9_readDial 120 (.iload_n 3) 1 121 ∧ ((3 : Fin 4) : Nat) = 3 := ⟨⟨vm_row tbX9_readDial 65 rfl, rfl⟩, rfl⟩
theorem dX9_readDial_121 : vm_at cX9_readDial 121 (.imul) 1 122 := ⟨vm_row tbX9_readDial 66 rfl, rfl⟩
theorem dX9_readDial_122 : vm_at cX9_readDial 122 (.istore 5) 2 124 := ⟨vm_row tbX9_readDial 67 rfl, rfl⟩
theorem dX9_readDial_124 : vm_at cX9_readDial 124 (.iinc 6 1) 3 127 ∧ Int32.ofInt (1) = (1 : Int32) := ⟨⟨vm_row tbX9_readDial 68 rfl, rfl⟩, z_iconst_1⟩
theorem dX9_readDial_127 : vm_br cX9_readDial 127 (.goto (-16)) 3 130 (-16) 111 := ⟨vm_row tbX9_readDial 69 rfl, rfl, rfl⟩
theorem dX9_readDial_130 : vm_at cX9_readDial 130 (.iload 5) 2 132 := ⟨vm_row tbX9_readDial 70 rfl, rfl⟩
theorem dX9_readDial_132 : vm_at cX9_readDial 132 (.bipush 100) 2 134 ∧ (Int8.ofInt (100)).toInt32 = (100 : Int32) := ⟨⟨vm_row tbX9_readDial 71 rfl, rfl⟩, z_bipush_100⟩
theorem dX9_readDial_134 : vm_br cX9_readDial 134 (.if_icmp .le 13) 3 137 (13) 147 := ⟨vm_row tbX9_readDial 72 rfl, rfl, rfl⟩
theorem dX9_readDial_137 : vm_at cX9_readDial 137 (.aload_n 0) 1 138 ∧ ((0 : Fin 4) : Nat) = 0 := ⟨⟨vm_row tbX9_readDial 73 rfl, rfl⟩, rfl⟩
theorem dX9_readDial_138 : vm_at cX9_readDial 138 (.iconst 2) 1 139 ∧ Int32.ofInt (2) = (2 : Int32) := ⟨⟨vm_row tbX9_readDial 74 rfl, rfl⟩, z_iconst_2⟩
theorem dX9_readDial_139 : vm_at cX9_readDial 139 (.aload_n 0) 1 140 ∧ ((0 : Fin 4) : Nat) = 0 := ⟨⟨vm_row tbX9_readDial 75 rfl, rfl⟩, rfl⟩
theorem dX9_readDial_140 : vm_at cX9_readDial 140 (.getfield 31) 3 143 := ⟨vm_row tbX9_readDial 76 rfl, rfl⟩
theorem dX9_readDial_143 : vm_at cX9_readDial 143 (.invokevirtual 61) 3 146 := ⟨vm_row tbX9_readDial 77 rfl, rfl⟩
theorem dX9_readDial_146 : vm_at cX9_readDial 146 (.ireturn) 1 147 := ⟨vm_row tbX9_readDial 78 rfl, rfl⟩
theorem dX9_readDial_147 : vm_at cX9_readDial 147 (.aload_n 1) 1 148 ∧ ((1 : Fin 4) : Nat) = 1 := ⟨⟨vm_row tbX9_readDial 79 rfl, rfl⟩, rfl⟩
theorem dX9_readDial_148 : vm_at cX9_readDial 148 (.iload_n 2) 1 149 ∧ ((2 : Fin 4) : Nat) = 2 := ⟨⟨vm_row tbX9_readDial 80 rfl, rfl⟩, rfl⟩
theorem dX9_readDial_149 : vm_at cX9_readDial 149 (.iload_n 3) 1 150 ∧ ((3 : Fin 4) : Nat) = 3 := ⟨⟨vm_row tbX9_readDial 81 rfl, rfl⟩, rfl⟩
theorem dX9_readDial_150 : vm_at cX9_readDial 150 (.iload 4) 2 152 := ⟨vm_row tbX9_readDial 82 rfl, rfl⟩
theorem dX9_readDial_152 : vm_at cX9_readDial 152 (.iload 5) 2 154 := ⟨vm_row tbX9_readDial 83 rfl, rfl⟩
theorem dX9_readDial_154 : vm_at cX9_readDial 154 (.invokevirtual 72) 3 157 := ⟨vm_row tbX9_readDial 84 rfl, rfl⟩
theorem dX9_readDial_157 : vm_at cX9_readDial 157 (.aload_n 0) 1 158 ∧ ((0 : Fin 4) : Nat) = 0 := ⟨⟨vm_row tbX9_readDial 85 rfl, rfl⟩, rfl⟩
theorem dX9_readDial_158 : vm_at cX9_readDial 158 (.invokevirtual 76) 3 161 := ⟨vm_row tbX9_readDial 86 rfl, rfl⟩
theorem dX9_readDial_161 : vm_at cX9_readDial 161 (.ireturn) 1 162 := ⟨vm_row tbX9_readDial 87 rfl, rfl⟩
def tlX9_readKey : List (Nat × Instr × Nat) := [(0, .aload_n 0, 1), (1, .invokevirtual 52, 3), (4, .aload_n 0, 1), (5, .invokevirtual 80, 3), (8, .istore_n 2, 1), (9, .iload_n 2, 1), (10, .iconst (-1), 1), (11, .if_icmp .ne 22, 3), (14, .aload_n 0, 1), (15, .ldc 55, 2), (17, .invokevirtual 57, 3), (20, .ifCond .ne 13, 3), (23, .aload_n 0, 1), (24, .iconst 1, 1), (25, .aload_n 0, 1), (26, .getfield 28, 3), (29, .invokevirtual 61, 3), (32, .ireturn, 1), (33, .iload_n 2, 1), (34, .iconst (-1), 1), (35, .if_icmp .eq 12, 3), (38, .aload_n 1, 1), (39, .getfield 84, 3), (42, .bipush 8, 2), (44, .if_icmp .lt 13, 3), (47, .aload_n 0, 1), (48, .iconst 3, 1), (49, .aload_n 0, 1), (50, .getfield 28, 3), (53, .invokevirtual 61, 3), (56, .ireturn, 1), (57, .iconst (-1), 1), (58, .istore_n 3, 1), (59, .iconst (-1), 1), (60, .istore 4, 2), (62, .iload_n 2, 1), (63, .ifCond .eq 9, 3), (66, .iload_n 2, 1), (67, .bipush 7, 2), (69, .if_icmp .ne 24, 3), (72, .aload_n 0, 1), (73, .iconst 0, 1), (74, .aload_n 1, 1), (75, .getfield 87, 3), (78, .iconst 1, 1), (79, .isub, 1), (80, .invokevirtual 69, 3), (83, .ifCond .ne 5, 3), (86, .iconst 0, 1), (87, .ireturn, 1), (88, .aload_n 0, 1), (89, .getfield 34, 3), (92, .istore_n 3, 1), (93, .iload_n 2, 1), (94, .bipush 7, 2), (96, .if_icmp .ne 25, 3), (99, .aload_n 0, 1), (100, .iconst 0, 1), (101, .aload_n 1, 1), (102, .getfield 87, 3), (105, .iconst 1, 1), (106, .isub, 1), (107, .invokevirtual 69, 3), (110, .ifCond .ne 5, 3), (113, .iconst 0, 1), (114, .ireturn, 1), (115, .aload_n 0, 1), (116, .getfield 34, 3), (119, .istore 4, 2), (121, .iload_n 2, 1), (122, .bipush 6, 2), (124, .if_icmp .ne 56, 3), (127, .aload_n 0, 1), (128, .invokevirtual 52, 3), (131, .aload_n 0, 1), (132, .invokevirtual 80, 3), (135, .istore 4, 2), (137, .iload 4, 2), (139, .iconst 1, 1), (140, .if_icmp .lt 9, 3), (143, .iload 4, 2), (145, .iconst 3, 1), (146, .if_icmp .le 13, 3), (149, .aload_n 0, 1), (150, .iconst 1, 1), (151, .aload_n 0, 1), (152, .getfield 28, 3), (155, .invokevirtual 61, 3), (158, .ireturn, 1), (159, .aload_n 0, 1), (160, .iconst 0, 1), (161, .aload_n 1, 1), (162, .getfield 90, 3), (165, .iconst 1, 1), (166, .isub, 1), (167, .invokevirtual 69, 3), (170, .ifCond .ne 5, 3), (173, .iconst 0, 1), (174, .ireturn, 1), (175, .aload_n 0, 1), (176, .getfield 34, 3), (179, .istore_n 3, 1), (180, .aload_n 0, 1), (181, .iconst 1, 1), (182, .bipush 99, 2), (184, .invokevirtual 69, 3), (187, .ifCond .eq 10, 3), (190, .aload_n 0, 1), (191, .invokevirtual 76, 3), (194, .ifCond .ne 5, 3), (197, .iconst 0, 1), (198, .ireturn, 1), (199, .aload_n 1, 1), (200, .iload_n 2, 1), (201, .aload_n 0, 1), (202, .getfield 34, 3), (205, .iload_n 3, 1), (206, .iload 4, 2), (208, .invokevirtual 93, 3), (211, .iconst 1, 1), (212, .ireturn, 1)]
theorem tbX9_readKey : vm_chk cX9_readKey tlX9_readKey = true := by decide +kernel
theorem dX9_readKey_0 : vm_at cX9_readKey 0 (.aload_n 0) 1 1 ∧ ((0 : Fin 4) : Nat) = 0 := ⟨⟨vm_row tbX9_readKey 0 rfl, rfl⟩, rfl⟩
theorem dX9_readKey_1 : vm_at cX9_readKey 1 (.invokevirtual 52) 3 4 := ⟨vm_row tbX9_readKey 1 rfl, rfl⟩
theorem dX9_readKey_4 : vm_at cX9_readKey 4 (.aload_n 0) 1 5 ∧ ((0 : Fin 4) : Nat) = 0 := ⟨⟨vm_row tbX9_readKey 2 rfl, rfl⟩, rfl⟩
theorem dX9_readKey_5 : vm_at cX9_readKey 5 (.invokevirtual 80) 3 8 := ⟨vm_row tbX9_readKey 3 rfl, rfl⟩
theorem dX9_readKey_8 : vm_at cX9_readKey 8 (.istore_n 2) 1 9 ∧ ((2 : Fin 4) : Nat) = 2 := ⟨⟨vm_row tbX9_readKey 4 rfl, rfl⟩, rfl⟩
theorem dX9_readKey_9 : vm_at cX9_readKey 9 (.iload_n 2) 1 10 ∧ ((2 : Fin 4) : Nat) = 2 := ⟨⟨vm_row tbX9_readKey 5 rfl, rfl⟩, rfl⟩
theorem dX9_readKey_10 : vm_at cX9_readKey 10 (.iconst (-1)) 1 11 ∧ Int32.ofInt (-1) = (-1 : Int32) := ⟨⟨vm_row tbX9_readKey 6 rfl, rfl⟩, z_iconst_m1⟩
theorem dX9_readKey_11 : vm_br cX9_readKey 11 (.if_icmp .ne 22) 3 14 (22) 33 := ⟨vm_row tbX9_readKey 7 rfl, rfl, rfl⟩
theorem dX9_readKey_14 : vm_at cX9_readKey 14 (.aload_n 0) 1 15 ∧ ((0 : Fin 4) : Nat) = 0 := ⟨⟨vm_row tbX9_readKey 8 rfl, rfl⟩, rfl⟩
theorem dX9_readKey_15 : vm_at cX9_readKey 15 (.ldc 55) 2 17 := ⟨vm_row tbX9_readKey 9 rfl, rfl⟩
theorem dX9_readKey_17 : vm_at cX9_readKey 17 (.invokevirtual 57) 3 20 := ⟨vm_row tbX9_readKey 10 rfl, rfl⟩
theorem dX9_readKey_20 : vm_br cX9_readKey 20 (.ifCond .ne 13) 3 23 (13) 33 := ⟨vm_row tbX9_readKey 11 rfl, rfl, rfl⟩
theorem dX9_readKey_23 : vm_at cX9_readKey 23 (.aload_n 0) 1 24 ∧ ((0 : Fin 4) : Nat) = 0 := ⟨⟨vm_row tbX9_readKey 12 rfl, rfl⟩, rfl⟩
theorem dX9_readKey_24 : vm_at cX9_readKey 24 (.iconst 1) 1 25 ∧ Int32.ofInt (1) = (1 : Int32) := ⟨⟨vm_row tbX9_readKey 13 rfl, rfl⟩, z_iconst_1⟩
theorem dX9_readKey_25 : vm_at cX9_readKey 25 (.aload_n 0) 1 26 ∧ ((0 : Fin 4) : Nat) = 0 := ⟨⟨vm_row tbX9_readKey 14 rfl, rfl⟩, rfl⟩
theorem dX9_readKey_26 : vm_at cX9_readKey 26 (.getfield 28) 3 29 := ⟨vm_row tbX9_readKey 15 rfl, rfl⟩
theorem dX9_readKey_29 : vm_at cX9_readKey 29 (.invokevirtual 61) 3 32 := ⟨vm_row tbX9_readKey 16 rfl, rfl⟩
theorem dX9_readKey_32 : vm_at cX9_readKey 32 (.ireturn) 1 33 := ⟨vm_row tbX9_readKey 17 rfl, rfl⟩
theorem dX9_readKey_33 : vm_at cX9_readKey 33 (.iload_n 2) 1 34 ∧ ((2 : Fin 4) : Nat) = 2 := ⟨⟨vm_row tbX9_readKey 18 rfl, rfl⟩, rfl⟩
theorem dX9_readKey_34 : vm_at cX9_readKey 34 (.iconst (-1)) 1 35 ∧ Int32.ofInt (-1) = (-1 : Int32) := ⟨⟨vm_row tbX9_readKey 19 rfl, rfl⟩, z_iconst_m1⟩
theorem dX9_readKey_35 : vm_br cX9_readKey 35 (.if_icmp .eq 12) 3 38 (12) 47 := ⟨vm_row tbX9_readKey 20 rfl, rfl, rfl⟩
theorem dX9_readKey_38 : vm_at cX9_readKey 38 (.aload_n 1) 1 39 ∧ ((1 : Fin 4) : Nat) = 1 := ⟨⟨vm_row tbX9_readKey 21 rfl, rfl⟩, rfl⟩
theorem dX9_readKey_39 : vm_at cX9_readKey 39 (.getfield 84) 3 42 := ⟨vm_row tbX9_readKey 22 rfl, rfl⟩
theorem dX9_readKey_42 : vm_at cX9_readKey 42 (.bipush 8) 2 44 ∧ (Int8.ofInt (8)).toInt32 = (8 : Int32) := ⟨⟨vm_row tbX9_readKey 23 rfl, rfl⟩, z_bipush_8⟩
theorem dX9_readKey_44 : vm_br cX9_readKey 44 (.if_icmp .lt 13) 3 47 (13) 57 := ⟨vm_row tbX9_readKey 24 rfl, rfl, rfl⟩
theorem dX9_readKey_47 : vm_at cX9_readKey 47 (.aload_n 0) 1 48 ∧ ((0 : Fin 4) : Nat) = 0 := ⟨⟨vm_row tbX9_readKey 25 rfl, rfl⟩, rfl⟩
theorem dX9_readKey_48 : vm_at cX9_readKey 48 (.iconst 3) 1 49 ∧ Int32.ofInt (3) = (3 : Int32) := ⟨⟨vm_row tbX9_readKey 26 rfl, rfl⟩, z_iconst_3⟩
theorem dX9_readKey_49 : vm_at cX9_readKey 49 (.aload_n 0) 1 50 ∧ ((0 : Fin 4) : Nat) = 0 := ⟨⟨vm_row tbX9_readKey 27 rfl, rfl⟩, rfl⟩
theorem dX9_readKey_50 : vm_at cX9_readKey 50 (.getfield 28) 3 53 := ⟨vm_row tbX9_readKey 28 rfl, rfl⟩
theorem dX9_readKey_53 : vm_at cX9_readKey 53 (.invokevirtual 61) 3 56 := ⟨vm_row tbX9_readKey 29 rfl, rfl⟩
theorem dX9_readKey_56 : vm_at cX9_readKey 56 (.ireturn) 1 57 := ⟨vm_row tbX9_readKey 30 rfl, rfl⟩
theorem dX9_readKey_57 : vm_at cX9_readKey 57 (.iconst (-1)) 1 58 ∧ Int32.ofInt (-1) = (-1 : Int32) := ⟨⟨vm_row tbX9_readKey 31 rfl, rfl⟩, z_iconst_m1⟩
theorem dX9_readKey_58 : vm_at cX9_readKey 58 (.istore_n 3) 1 59 ∧ ((3 : Fin 4) : Nat) = 3 := ⟨⟨vm_row tbX9_readKey 32 rfl, rfl⟩, rfl⟩
theorem dX9_readKey_59 : vm_at cX9_readKey 59 (.iconst (-1)) 1 60 ∧ Int32.ofInt (-1) = (-1 : Int32) := ⟨⟨vm_row tbX9_readKey 33 rfl, rfl⟩, z_iconst_m1⟩
theorem dX9_readKey_60 : vm_at cX9_readKey 60 (.istore 4) 2 62 := ⟨vm_row tbX9_readKey 34 rfl, rfl⟩
theorem dX9_readKey_62 : vm_at cX9_readKey 62 (.iload_n 2) 1 63 ∧ ((2 : Fin 4) : Nat) = 2 := ⟨⟨vm_row tbX9_readKey 35 rfl, rfl⟩, rfl⟩
theorem dX9_readKey_63 : vm_br cX9_readKey 63 (.ifCond .eq 9) 3 66 (9) 72 := ⟨vm_row tbX9_readKey 36 rfl, rfl, rfl⟩
theorem dX9_readKey_66 : vm_at cX9_readKey 66 (.iload_n 2) 1 67 ∧ ((2 : Fin 4) : Nat) = 2 := ⟨⟨vm_row tbX9_readKey 37 rfl, rfl⟩, rfl⟩
theorem dX9_readKey_67 : vm_at cX9_readKey 67 (.bipush 7) 2 69 ∧ (Int8.ofInt (7)).toInt32 = (7 : Int32) := ⟨⟨vm_row tbX9_readKey 38 rfl, rfl⟩, z_bipush_7⟩
theorem dX9_readKey_69 : vm_br cX9_readKey 69 (.if_icmp .ne 24) 3 72 (24) 93 := ⟨vm_row tbX9_readKey 39 rfl, rfl, rfl⟩
theorem dX9_readKey_72 : vm_at cX9_readKey 72 (.aload_n 0) 1 73 ∧ ((0 : Fin 4) : Nat) = 0 := ⟨⟨vm_row tbX9_readKey 40 rfl, rfl⟩, rfl⟩
theorem dX9_readKey_73 : vm_at cX9_readKey 73 (.iconst 0) 1 74 ∧ Int32.ofInt (0) = (0 : Int32) := ⟨⟨vm_row tbX9_readKey 41 rfl, rfl⟩, z_iconst_0⟩
theorem dX9_readKey_74 : vm_at cX9_readKey 74 (.aload_n 1) 1 75 ∧ ((1 : Fin 4) : Nat) = 1 := ⟨⟨vm_row tbX9_readKey 42 rfl, rfl⟩, rfl⟩
theorem dX9_readKey_75 : vm_at cX9_readKey 75 (.getfield 87) 3 78 := ⟨vm_row tbX9_readKey 43 rfl, rfl⟩
theorem dX9_readKey_78 : vm_at cX9_readKey 78 (.iconst 1) 1 79 ∧ Int32.ofInt (1) = (1 : Int32) := ⟨⟨vm_row tbX9_readKey 44 rfl, rfl⟩, z_iconst_1⟩
theorem dX9_readKey_79 : vm_at cX9_readKey 79 (.isub) 1 80 := ⟨vm_row tbX9_readKey 45 rfl, rfl⟩
theorem dX9_readKey_80 : vm_at cX9_readKey 80 (.invokevirtual 69) 3 83 := ⟨vm_row tbX9_readKey 46 rfl, rfl⟩
theorem dX9_readKey_83 : vm_br cX9_readKey 83 (.ifCond .ne 5) 3 86 (5) 88 := ⟨vm_row tbX9_readKey 47 rfl, rfl, rfl⟩
theorem dX9_readKey_86 : vm_at cX9_readKey 86 (.iconst 0) 1 87 ∧ Int32.ofInt (0) = (0 : Int32) := ⟨⟨vm_row tbX9_readKey 48 rfl, rfl⟩, z_iconst_0⟩
theorem dX9_readKey_87 : vm_at cX9_readKey 87 (.ireturn) 1 88 := ⟨vm_row tbX9_readKey 49 rfl, rfl⟩
theorem dX9_readKey_88 : vm_at cX9_readKey 88 (.aload_n 0) 1 89 ∧ ((0 : Fin 4) : Nat) = 0 := ⟨⟨vm_row tbX9_readKey 50 rfl, rfl⟩, rfl⟩
theorem dX9_readKey_89 : vm_at cX9_readKey 89 (.getfield 34) 3 92 := ⟨vm_row tbX9_readKey 51 rfl, rfl⟩
theorem dX9_readKey_92 : vm_at cX9_readKey 92 (.istore_n 3) 1 93 ∧ ((3 : Fin 4) : Nat) = 3 := ⟨⟨vm_row tbX9_readKey 52 rfl, rfl⟩, rfl⟩
theorem dX9_readKey_93 : vm_at cX9_readKey 93 (.iload_n 2) 1 94 ∧ ((2 : Fin 4) : Nat) = 2 := ⟨⟨vm_row tbX9_readKey 53 rfl, rfl⟩, rfl⟩
theorem dX9_readKey_94 : vm_at cX9_readKey 94 (.bipush 7) 2 96 ∧ (Int8.ofInt (7)).toInt32 = (7 : Int32) := ⟨⟨vm_row tbX9_readKey 54 rfl, rfl⟩, z_bipush_7⟩
theorem dX9_readKey_96 : vm_br cX9_readKey 96 (.if_icmp .ne 25) 3 99 (25) 121 := ⟨vm_row tbX9_readKey 55 rfl, rfl, rfl⟩
theorem dX9_readKey_99 : vm_at cX9_readKey 99 (.aload_n 0) 1 100 ∧ ((0 : Fin 4) : Nat) = 0 := ⟨⟨vm_row tbX9_readKey 56 rfl, rfl⟩, rfl⟩
theorem dX9_readKey_100 : vm_at cX9_readKey 100 (.iconst 0) 1 101 ∧ Int32.ofInt (0) = (0 : Int32) := ⟨⟨vm_row tbX9_readKey 57 rfl, rfl⟩, z_iconst_0⟩
theorem dX9_readKey_101 : vm_at cX9_readKey 101 (.aload_n 1) 1 102 ∧ ((1 : Fin 4) : Nat) = 1 := ⟨⟨vm_row tbX9_readKey 58 rfl, rfl⟩, rfl⟩
theorem dX9_readKey_102 : vm_at cX9_readKey 102 (.getfield 87) 3 105 := ⟨vm_row tbX9_readKey 59 rfl, rfl⟩
theorem dX9_readKey_105 : vm_at cX9_readKey 105 (.iconst 1) 1 106 ∧ Int32.ofInt (1) = (1 : Int32) := ⟨⟨vm_row tbX9_readKey 60 rfl, rfl⟩, z_iconst_1⟩
theorem dX9_readKey_106 : vm_at cX9_readKey 106 (.isub) 1 107 := ⟨vm_row tbX9_readKey 61 rfl, rfl⟩
theorem dX9_readKey_107 : vm_at cX9_readKey 107 (.invokevirtual 69) 3 110 := ⟨vm_row tbX9_readKey 62 rfl, rfl⟩
theorem dX9_readKey_110 : vm_br cX9_readKey 110 (.ifCond .ne 5) 3 113 (5) 115 := ⟨vm_row tbX9_readKey 63 rfl, rfl, rfl⟩
theorem dX9_readKey_113 : vm_at cX9_readKey 113 (.iconst 0) 1 114 ∧ Int32.ofInt (0) = (0 : Int32) := ⟨⟨vm_row tbX9_readKey 64 rfl, rfl⟩, z_iconst_0⟩
theorem dX9_readKey_114 : vm_at cX9_readKey 114 (.ireturn) 1 115 := ⟨vm_row tbX9_readKey 65 rfl, rfl⟩
theorem dX9_readKey_115 : vm_at cX9_readKey 115 (.aload_n 0) 1 116 ∧ ((0 : Fin 4) : Nat) = 0 := ⟨⟨vm_row tbX9_readKey 66 rfl, rfl⟩, rfl⟩
theorem dX9_readKey_116 : vm_at cX9_readKey 116 (.getfield 34) 3 119 := ⟨vm_row tbX9_readKey 67 rfl, rfl⟩
theorem dX9_readKey_119 : vm_at cX9_readKey 119 (.istore 4) 2 121 := ⟨vm_row tbX9_readKey 68 rfl, rfl⟩
theorem dX9_readKey_121 : vm_at cX9_readKey 121 (.iload_n 2) 1 122 ∧ ((2 : Fin 4) : Nat) = 2 := ⟨⟨vm_row tbX9_readKey 69 rfl, rfl⟩, rfl⟩
theorem dX9_readKey_122 : vm_at cX9_readKey 122 (.bipush 6) 2 124 ∧ (Int8.ofInt (6)).toInt32 = (6 : Int32) := ⟨⟨vm_row tbX9_readKey 70 rfl, rfl⟩, z_bipush_6⟩
theorem dX9_readKey_124 : vm_br cX9_readKey 124 (.if_icmp .ne 56) 3 127 (56) 180 := ⟨vm_row tbX9_readKey 71 rfl, rfl, rfl⟩
theorem dX9_readKey_127 : vm_at cX9_readKey 127 (.aload_n 0) 1 128 ∧ ((0 : Fin 4) : Nat) = 0 := ⟨⟨vm_row tbX9_readKey 72 rfl, rfl⟩, rfl⟩
theorem dX9_readKey_128 : vm_at cX9_readKey 128 (.invokevirtual 52) 3 131 := ⟨vm_row tbX9_readKey 73 rfl, rfl⟩
theorem dX9_readKey_131 : vm_at cX9_readKey 131 (.aload_n 0) 1 132 ∧ ((0 : Fin 4) : Nat) = 0 := ⟨⟨vm_row tbX9_readKey 74 rfl, rfl⟩, rfl⟩
theorem dX9_readKey_132 : vm_at cX9_readKey 132 (.invokevirtual 80) 3 135 := ⟨vm_row tbX9_readKey 75 rfl, rfl⟩
theorem dX9_readKey_135 : vm_at cX9_readKey 135 (.istore 4) 2 137 := ⟨vm_row tbX9_readKey 76 rfl, rfl⟩
theorem dX9_readKey_137 : vm_at cX9_readKey 137 (.iload 4) 2 139 := ⟨vm_row tbX9_readKey 77 rfl, rfl⟩
theorem dX9_readKey_139 : vm_at cX9_readKey 139 (.iconst 1) 1 140 ∧ Int32.ofInt (1) = (1 : Int32) := ⟨⟨vm_row tbX9_readKey 78 rfl, rfl⟩, z_iconst_1⟩
theorem dX9_readKey_140 : vm_br cX9_readKey 140 (.if_icmp .lt 9) 3 143 (9) 149 := ⟨vm_row tbX9_readKey 79 rfl, rfl, rfl⟩
theorem dX9_readKey_143 : vm_at cX9_readKey 143 (.iload 4) 2 145 := ⟨vm_row tbX9_readKey 80 rfl, rfl⟩
theorem dX9_readKey_145 : vm_at cX9_readKey 145 (.iconst 3) 1 146 ∧ Int32.ofInt (3) = (3 : Int32) := ⟨⟨vm_row tbX9_readKey 81 rfl, rfl⟩, z_iconst_3⟩
theorem dX9_readKey_146 : vm_br cX9_readKey 146 (.if_icmp .le 13) 3 149 (13) 159 := ⟨vm_row tbX9_readKey 82 rfl, rfl, rfl⟩
theorem dX9_readKey_149 : vm_at cX9_readKey 149 (.aload_n 0) 1 150 ∧ ((0 : Fin 4) : Nat) = 0 := ⟨⟨vm_row tbX9_readKey 83 rfl, rfl⟩, rfl⟩
theorem dX9_readKey_150 : vm_at cX9_readKey 150 (.iconst 1) 1 151 ∧ Int32.ofInt (1) = (1 : Int32) := ⟨⟨vm_row tbX9_readKey 84 rfl, rfl⟩, z_iconst_1⟩
theorem dX9_readKey_151 : vm_at cX9_readKey 151 (.aload_n 0) 1 152 ∧ ((0 : Fin 4) : Nat) = 0 := ⟨⟨vm_row tbX9_readKey 85 rfl, rfl⟩, rfl⟩
theorem dX9_readKey_152 : vm_at cX9_readKey 152 (.getfield 28) 3 155 := ⟨vm_row tbX9_readKey 86 rfl, rfl⟩
theorem dX9_readKey_155 : vm_at cX9_readKey 155 (.invokevirtual 61) 3 158 := ⟨vm_row tbX9_readKey 87 rfl, rfl⟩
theorem dX9_readKey_158 : vm_at cX9_readKey 158 (.ireturn) 1 159 := ⟨vm_row tbX9_readKey 88 rfl, rfl⟩
theorem dX9_readKey_159 : vm_at cX9_readKey 159 (.aload_n 0) 1 160 ∧ ((0 : Fin 4) : Nat) = 0 := ⟨⟨vm_row tbX9_readKey 89 rfl, rfl⟩, rfl⟩
theorem dX9_readKey_160 : vm_at cX9_readKey 160 (.iconst 0) 1 161 ∧ Int32.ofInt (0) = (0 : Int32) := ⟨⟨vm_row tbX9_readKey 90 rfl, rfl⟩, z_iconst_0⟩
theorem dX9_readKey_161 : vm_at cX9_readKey 161 (.aload_n 1) 1 162 ∧ ((1 : Fin 4) : Nat) = 1 := ⟨⟨vm_row tbX9_readKey 91 rfl, rfl⟩, rfl⟩
theorem dX9_readKey_162 : vm_at cX9_readKey 162 (.getfield 90) 3 165 := ⟨vm_row tbX9_readKey 92 rfl, rfl⟩
theorem dX9_readKey_165 : vm_at cX9_readKey 165 (.iconst 1) 1 166 ∧ Int32.ofInt (1) = (1 : Int32) := ⟨⟨vm_row tbX9_readKey 93 rfl, rfl⟩, z_iconst_1⟩
theorem dX9_readKey_166 : vm_at cX9_readKey 166 (.isub) 1 167 := ⟨vm_row tbX9_readKey 94 rfl, rfl⟩
theorem dX9_readKey_167 : vm_at cX9_readKey 167 (.invokevirtual 69) 3 170 := ⟨vm_row tbX9_readKey 95 rfl, rfl⟩
theorem dX9_readKey_170 : vm_br cX9_readKey 170 (.ifCond .ne 5) 3 173 (5) 175 := ⟨vm_row tbX9_readKey 96 rfl, rfl, rfl⟩
theorem dX9_readKey_173 : vm_at cX9_readKey 173 (.iconst 0) 1 174 ∧ Int32.ofInt (0) = (0 : Int32) := ⟨⟨vm_row tbX9_readKey 97 rfl, rfl⟩, z_iconst_0⟩
theorem dX9_readKey_174 : vm_at cX9_readKey 174 (.ireturn) 1 175 := ⟨vm_row tbX9_readKey 98 rfl, rfl⟩
theorem dX9_readKey_175 : vm_at cX9_readKey 175 (.aload_n 0) 1 176 ∧ ((0 : Fin 4) : Nat) = 0 := ⟨⟨vm_row tbX9_readKey 99 rfl, rfl⟩, rfl⟩
theorem dX9_readKey_176 : vm_at cX9_readKey 176 (.getfield 34) 3 179 := ⟨vm_row tbX9_readKey 100 rfl, rfl⟩
theorem dX9_readKey_179 : vm_at cX9_readKey 179 (.istore_n 3) 1 180 ∧ ((3 : Fin 4) : Nat) = 3 := ⟨⟨vm_row tbX9_readKey 101 rfl, rfl⟩, rfl⟩
theorem dX9_readKey_180 : vm_at cX9_readKey 180 (.aload_n 0) 1 181 ∧ ((0 : Fin 4) : Nat) = 0 := ⟨⟨vm_row tbX9_readKey 102 rfl, rfl⟩, rfl⟩
theorem dX9_readKey_181 : vm_at cX9_readKey 181 (.iconst 1) 1 182 ∧ Int32.ofInt (1) = (1 : Int32) := ⟨⟨vm_row tbX9_readKey 103 rfl, rfl⟩, z_iconst_1⟩
theorem dX9_readKey_182 : vm_at cX9_readKey 182 (.bipush 99) 2 184 ∧ (Int8.ofInt (99)).toInt32 = (99 : Int32) := ⟨⟨vm_row tbX9_readKey 104 rfl, rfl⟩, z_bipush_99⟩
theorem dX9_readKey_184 : vm_at cX9_readKey 184 (.invokevirtual 69) 3 187 := ⟨vm_row tbX9_readKey 105 rfl, rfl⟩
theorem dX9_readKey_187 : vm_br cX9_readKey 187 (.ifCond .eq 10) 3 190 (10) 197 := ⟨vm_row tbX9_readKey 106 rfl, rfl, rfl⟩
theorem dX9_readKey_190 : vm_at cX9_readKey 190 (.aload_n 0) 1 191 ∧ ((0 : Fin 4) : Nat) = 0 := ⟨⟨vm_row tbX9_readKey 107 rfl, rfl⟩, rfl⟩
theorem dX9_readKey_191 : vm_at cX9_readKey 191 (.invokevirtual 76) 3 194 := ⟨vm_row tbX9_readKey 108 rfl, rfl⟩
theorem dX9_readKey_194 : vm_br cX9_readKey 194 (.ifCond .ne 5) 3 197 (5) 199 := ⟨vm_row tbX9_readKey 109 rfl, rfl, rfl⟩
theorem dX9_readKey_197 : vm_at cX9_readKey 197 (.iconst 0) 1 198 ∧ Int32.ofInt (0) = (0 : Int32) := ⟨⟨vm_row tbX9_readKey 110 rfl, rfl⟩, z_iconst_0⟩
theorem dX9_readKey_198 : vm_at cX9_readKey 198 (.ireturn) 1 199 := ⟨vm_row tbX9_readKey 111 rfl, rfl⟩
theorem dX9_readKey_199 : vm_at cX9_readKey 199 (.aload_n 1) 1 200 ∧ ((1 : Fin 4) : Nat) = 1 := ⟨⟨vm_row tbX9_readKey 112 rfl, rfl⟩, rfl⟩
theorem dX9_readKey_200 : vm_at cX9_readKey 200 (.iload_n 2) 1 201 ∧ ((2 : Fin 4) : Nat) = 2 := ⟨⟨vm_row tbX9_readKey 113 rfl, rfl⟩, rfl⟩
theorem dX9_readKey_201 : vm_at cX9_readKey 201 (.aload_n 0) 1 202 ∧ ((0 : Fin 4) : Nat) = 0 := ⟨⟨vm_row tbX9_readKey 114 rfl, rfl⟩, rfl⟩
theorem dX9_readKey_202 : vm_at cX9_readKey 202 (.getfield 34) 3 205 := ⟨vm_row tbX9_readKey 115 rfl, rfl⟩
theorem dX9_readKey_205 : vm_at cX9_readKey 205 (.iload_n 3) 1 206 ∧ ((3 : Fin 4) : Nat) = 3 := ⟨⟨vm_row tbX9_readKey 116 rfl, rfl⟩, rfl⟩
theorem dX9_readKey_206 : vm_at cX9_readKey 206 (.iload 4) 2 208 := ⟨vm_row tbX9_readKey 117 rfl, rfl⟩
theorem dX9_readKey_208 : vm_at cX9_readKey 208 (.invokevirtual 93) 3 211 := ⟨vm_row tbX9_readKey 118 rfl, rfl⟩
theorem dX9_readKey_211 : vm_at cX9_readKey 211 (.iconst 1) 1 212 ∧ Int32.ofInt (1) = (1 : Int32) := ⟨⟨vm_row tbX9_readKey 119 rfl, rfl⟩, z_iconst_1⟩
theorem dX9_readKey_212 : vm_at cX9_readKey 212 (.ireturn) 1 213 := ⟨vm_row tbX9_readKey 120 rfl, rfl⟩
def tlX9_refuse : List (Nat × Instr × Nat) := [(0, .aload_n 0, 1), (1, .iload_n 1, 1), (2, .putfield 19, 3), (5, .aload_n 0, 1), (6, .iload_n 2, 1), (7, .putfield 22, 3), (10, .iconst 0, 1), (11, .ireturn, 1)]
theorem tbX9_refuse : vm_chk cX9_refuse tlX9_refuse = true := by decide +kernel
theorem dX9_refuse_0 : vm_at cX9_refuse 0 (.aload_n 0) 1 1 ∧ ((0 : Fin 4) : Nat) = 0 := ⟨⟨vm_row tbX9_refuse 0 rfl, rfl⟩, rfl⟩
theorem dX9_refuse_1 : vm_at cX9_refuse 1 (.iload_n 1) 1 2 ∧ ((1 : Fin 4) : Nat) = 1 := ⟨⟨vm_row tbX9_refuse 1 rfl, rfl⟩, rfl⟩
theorem dX9_refuse_2 : vm_at cX9_refuse 2 (.putfield 19) 3 5 := ⟨vm_row tbX9_refuse 2 rfl, rfl⟩
theorem dX9_refuse_5 : vm_at cX9_refuse 5 (.aload_n 0) 1 6 ∧ ((0 : Fin 4) : Nat) = 0 := ⟨⟨vm_row tbX9_refuse 3 rfl, rfl⟩, rfl⟩
theorem dX9_refuse_6 : vm_at cX9_refuse 6 (.iload_n 2) 1 7 ∧ ((2 : Fin 4) : Nat) = 2 := ⟨⟨vm_row tbX9_refuse 4 rfl, rfl⟩, rfl⟩
theorem dX9_refuse_7 : vm_at cX9_refuse 7 (.putfield 22) 3 10 := ⟨vm_row tbX9_refuse 5 rfl, rfl⟩
theorem dX9_refuse_10 : vm_at cX9_refuse 10 (.iconst 0) 1 11 ∧ Int32.ofInt (0) = (0 : Int32) := ⟨⟨vm_row tbX9_refuse 6 rfl, rfl⟩, z_iconst_0⟩
theorem dX9_refuse_11 : vm_at cX9_refuse 11 (.ireturn) 1 12 := ⟨vm_row tbX9_refuse 7 rfl, rfl⟩
def tlX9_skipBlanks : List (Nat × Instr × Nat) := [(0, .aload_n 0, 1), (1, .getfield 25, 3), (4, .aload_n 0, 1), (5, .getfield 15, 3), (8, .if_icmp .ge 32, 3), (11, .aload_n 0, 1), (12, .getfield 9, 3), (15, .aload_n 0, 1), (16, .getfield 25, 3), (19, .invokestatic 96, 3), (22, .bipush 32, 2), (24, .if_icmp .ne 16, 3), (27, .aload_n 0, 1), (28, .dup, 1), (29, .getfield 25, 3), (32, .iconst 1, 1), (33, .iadd, 1), (34, .putfield 25, 3), (37, .goto (-37), 3), (40, .return_, 1)]
theorem tbX9_skipBlanks : vm_chk cX9_skipBlanks tlX9_skipBlanks = true := by decide +kernel
theorem dX9_skipBlanks_0 : vm_at cX9_skipBlanks 0 (.aload_n 0) 1 1 ∧ ((0 : Fin 4) : Nat) = 0 := ⟨⟨vm_row tbX9_skipBlanks 0 rfl, rfl⟩, rfl⟩
theorem dX9_skipBlanks_1 : vm_at cX9_skipBlanks 1 (.getfield 25) 3 4 := ⟨vm_row tbX9_skipBlanks 1 rfl, rfl⟩
theorem dX9_skipBlanks_4 : vm_at cX9_skipBlanks 4 (.aload_n 0) 1 5 ∧ ((0 : Fin 4) : Nat) = 0 := ⟨⟨vm_row tbX9_skipBlanks 2 rfl, rfl⟩, rfl⟩
theorem dX9_skipBlanks_5 : vm_at cX9_skipBlanks 5 (.getfield 15) 3 8 := ⟨vm_row tbX9_skipBlanks 3 rfl, rfl⟩
theorem dX9_skipBlanks_8 : vm_br cX9_skipBlanks 8 (.if_icmp .ge 32) 3 11 (32) 40 := ⟨vm_row tbX9_skipBlanks 4 rfl, rfl, rfl⟩
theorem dX9_skipBlanks_11 : vm_at cX9_skipBlanks 11 (.aload_n 0) 1 12 ∧ ((0 : Fin 4) : Nat) = 0 := ⟨⟨vm_row tbX9_skipBlanks 5 rfl, rfl⟩, rfl⟩
theorem dX9_skipBlanks_12 : vm_at cX9_skipBlanks 12 (.getfield 9) 3 15 := ⟨vm_row tbX9_skipBlanks 6 rfl, rfl⟩
theorem dX9_skipBlanks_15 : vm_at cX9_skipBlanks 15 (.aload_n 0) 1 16 ∧ ((0 : Fin 4) : Nat) = 0 := ⟨⟨vm_row tbX9_skipBlanks 7 rfl, rfl⟩, rfl⟩
theorem dX9_skipBlanks_16 : vm_at cX9_skipBlanks 16 (.getfield 25) 3 19 := ⟨vm_row tbX9_skipBlanks 8 rfl, rfl⟩
theorem dX9_skipBlanks_19 : vm_at cX9_skipBlanks 19 (.invokestatic 96) 3 22 := ⟨vm_row tbX9_skipBlanks 9 rfl, rfl⟩
theorem dX9_skipBlanks_22 : vm_at cX9_skipBlanks 22 (.bipush 32) 2 24 ∧ (Int8.ofInt (32)).toInt32 = (32 : Int32) := ⟨⟨vm_row tbX9_skipBlanks 10 rfl, rfl⟩, z_bipush_32⟩
theorem dX9_skipBlanks_24 : vm_br cX9_skipBlanks 24 (.if_icmp .ne 16) 3 27 (16) 40 := ⟨vm_row tbX9_skipBlanks 11 rfl, rfl, rfl⟩
theorem dX9_skipBlanks_27 : vm_at cX9_skipBlanks 27 (.aload_n 0) 1 28 ∧ ((0 : Fin 4) : Nat) = 0 := ⟨⟨vm_row tbX9_skipBlanks 12 rfl, rfl⟩, rfl⟩
theorem dX9_skipBlanks_28 : vm_at cX9_skipBlanks 28 (.dup) 1 29 := ⟨vm_row tbX9_skipBlanks 13 rfl, rfl⟩
theorem dX9_skipBlanks_29 : vm_at cX9_skipBlanks 29 (.getfield 25) 3 32 := ⟨vm_row tbX9_skipBlanks 14 rfl, rfl⟩
theorem dX9_skipBlanks_32 : vm_at cX9_skipBlanks 32 (.iconst 1) 1 33 ∧ Int32.ofInt (1) = (1 : Int32) := ⟨⟨vm_row tbX9_skipBlanks 15 rfl, rfl⟩, z_iconst_1⟩
theorem dX9_skipBlanks_33 : vm_at cX9_skipBlanks 33 (.iadd) 1 34 := ⟨vm_row tbX9_skipBlanks 16 rfl, rfl⟩
theorem dX9_skipBlanks_34 : vm_at cX9_skipBlanks 34 (.putfield 25) 3 37 := ⟨vm_row tbX9_skipBlanks 17 rfl, rfl⟩
theorem dX9_skipBlanks_37 : vm_br cX9_skipBlanks 37 (.goto (-37)) 3 40 (-37) 0 := ⟨vm_row tbX9_skipBlanks 18 rfl, rfl, rfl⟩
theorem dX9_skipBlanks_40 : vm_at cX9_skipBlanks 40 (.return_) 1 41 := ⟨vm_row tbX9_skipBlanks 19 rfl, rfl⟩
def tlX9_isBetween : List (Nat × Instr × Nat) := [(0, .iload_n 1, 1), (1, .aload_n 0, 1), (2, .getfield 15, 3), (5, .if_icmp .ge 31, 3), (8, .aload_n 0, 1), (9, .getfield 9, 3), (12, .iload_n 1, 1), (13, .invokestatic 96, 3), (16, .iload_n 2, 1), (17, .if_icmp .lt 19, 3), (20, .aload_n 0, 1), (21, .getfield 9, 3), (24, .iload_n 1, 1), (25, .invokestatic 96, 3), (28, .iload_n 3, 1), (29, .if_icmp .gt 7, 3), (32, .iconst 1, 1), (33, .goto 4, 3), (36, .iconst 0, 1), (37, .ireturn, 1)]
theorem tbX9_isBetween : vm_chk cX9_isBetween tlX9_isBetween = true := by decide +kernel
theorem dX9_isBetween_0 : vm_at cX9_isBetween 0 (.iload_n 1) 1 1 ∧ ((1 : Fin 4) : Nat) = 1 := ⟨⟨vm_row tbX9_isBetween 0 rfl, rfl⟩, rfl⟩
theorem dX9_isBetween_1 : vm_at cX9_isBetween 1 (.aload_n 0) 1 2 ∧ ((0 : Fin 4) : Nat) = 0 := ⟨⟨vm_row tbX9_isBetween 1 rfl, rfl⟩, rfl⟩
theorem dX9_isBetween_2 : vm_at cX9_isBetween 2 (.getfield 15) 3 5 := ⟨vm_row tbX9_isBetween 2 rfl, rfl⟩
theorem dX9_isBetween_5 : vm_br cX9_isBetween 5 (.if_icmp .ge 31) 3 8 (31) 36 := ⟨vm_row tbX9_isBetween 3 rfl, rfl, rfl⟩
theorem dX9_isBetween_8 : vm_at cX9_isBetween 8 (.aload_n 0) 1 9 ∧ ((0 : Fin 4) : Nat) = 0 := ⟨⟨vm_row tbX9_isBetween 4 rfl, rfl⟩, rfl⟩
theorem dX9_isBetween_9 : vm_at cX9_isBetween 9 (.getfield 9) 3 12 := ⟨vm_row tbX9_isBetween 5 rfl, rfl⟩
theorem dX9_isBetween_12 : vm_at cX9_isBetween 12 (.iload_n 1) 1 13 ∧ ((1 : Fin 4) : Nat) = 1 := ⟨⟨vm_row tbX9_isBetween 6 rfl, rfl⟩, rfl⟩
theorem dX9_isBetween_13 : vm_at cX9_isBetween 13 (.invokestatic 96) 3 16 := ⟨vm_row tbX9_isBetween 7 rfl, rfl⟩
theorem dX9_isBetween_16 : vm_at cX9_isBetween 16 (.iload_n 2) 1 17 ∧ ((2 : Fin 4) : Nat) = 2 := ⟨⟨vm_row tbX9_isBetween 8 rfl, rfl⟩, rfl⟩
theorem dX9_isBetween_17 : vm_br cX9_isBetween 17 (.if_icmp .lt 19) 3 20 (19) 36 := ⟨vm_row tbX9_isBetween 9 rfl, rfl, rfl⟩
theorem dX9_isBetween_20 : vm_at cX9_isBetween 20 (.aload_n 0) 1 21 ∧ ((0 : Fin 4) : Nat) = 0 := ⟨⟨vm_row tbX9_isBetween 10 rfl, rfl⟩, rfl⟩
theorem dX9_isBetween_21 : vm_at cX9_isBetween 21 (.getfield 9) 3 24 := ⟨vm_row tbX9_isBetween 11 rfl, rfl⟩
theorem dX9_isBetween_24 : vm_at cX9_isBetween 24 (.iload_n 1) 1 25 ∧ ((1 : Fin 4) : Nat) = 1 := ⟨⟨vm_row tbX9_isBetween 12 rfl, rfl⟩, rfl⟩
theorem dX9_isBetween_25 : vm_at cX9_isBetween 25 (.invokestatic 96) 3 28 := ⟨vm_row tbX9_isBetween 13 rfl, rfl⟩
theorem dX9_isBetween_28 : vm_at cX9_isBetween 28 (.iload_n 3) 1 29 ∧ ((3 : Fin 4) : Nat) = 3 := ⟨⟨vm_row tbX9_isBetween 14 rfl, rfl⟩, rfl⟩
theorem dX9_isBetween_29 : vm_br cX9_isBetween 29 (.if_icmp .gt 7) 3 32 (7) 36 := ⟨vm_row tbX9_isBetween 15 rfl, rfl, rfl⟩
theorem dX9_isBetween_32 : vm_at cX9_isBetween 32 (.iconst 1) 1 33 ∧ Int32.ofInt (1) = (1 : Int32) := ⟨⟨vm_row tbX9_isBetween 16 rfl, rfl⟩, z_iconst_1⟩
theorem dX9_isBetween_33 : vm_br cX9_isBetween 33 (.goto 4) 3 36 (4) 37 := ⟨vm_row tbX9_isBetween 17 rfl, rfl, rfl⟩
theorem dX9_isBetween_36 : vm_at cX9_isBetween 36 (.iconst 0) 1 37 ∧ Int32.ofInt (0) = (0 : Int32) := ⟨⟨vm_row tbX9_isBetween 18 rfl, rfl⟩, z_iconst_0⟩
theorem dX9_isBetween_37 : vm_at cX9_isBetween 37 (.ireturn) 1 38 := ⟨vm_row tbX9_isBetween 19 rfl, rfl⟩
def tlX9_takeWord : List (Nat × Instr × Nat) := [(0, .aload_n 0, 1), (1, .invokevirtual 42, 3), (4, .aload_n 0, 1), (5, .aload_n 0, 1), (6, .getfield 25, 3), (9, .putfield 28, 3), (12, .aload_n 0, 1), (13, .getfield 25, 3), (16, .aload_n 0, 1), (17, .getfield 15, 3), (20, .if_icmp .ge 31, 3), (23, .aload_n 0, 1), (24, .aload_n 0, 1), (25, .getfield 25, 3), (28, .bipush 97, 2), (30, .bipush 122, 2), (32, .invokevirtual 100, 3), (35, .ifCond .eq 16, 3), (38, .aload_n 0, 1), (39, .dup, 1), (40, .getfield 25, 3), (43, .iconst 1, 1), (44, .iadd, 1), (45, .putfield 25, 3), (48, .goto (-36), 3), (51, .return_, 1)]
theorem tbX9_takeWord : vm_chk cX9_takeWord tlX9_takeWord = true := by decide +kernel
theorem dX9_takeWord_0 : vm_at cX9_takeWord 0 (.aload_n 0) 1 1 ∧ ((0 : Fin 4) : Nat) = 0 := ⟨⟨vm_row tbX9_takeWord 0 rfl, rfl⟩, rfl⟩
theorem dX9_takeWord_1 : vm_at cX9_takeWord 1 (.invokevirtual 42) 3 4 := ⟨vm_row tbX9_takeWord 1 rfl, rfl⟩
theorem dX9_takeWord_4 : vm_at cX9_takeWord 4 (.aload_n 0) 1 5 ∧ ((0 : Fin 4) : Nat) = 0 := ⟨⟨vm_row tbX9_takeWord 2 rfl, rfl⟩, rfl⟩
theorem dX9_takeWord_5 : vm_at cX9_takeWord 5 (.aload_n 0) 1 6 ∧ ((0 : Fin 4) : Nat) = 0 := ⟨⟨vm_row tbX9_takeWord 3 rfl, rfl⟩, rfl⟩
theorem dX9_takeWord_6 : vm_at cX9_takeWord 6 (.getfield 25) 3 9 := ⟨vm_row tbX9_takeWord 4 rfl, rfl⟩
theorem dX9_takeWord_9 : vm_at cX9_takeWord 9 (.putfield 28) 3 12 := ⟨vm_row tbX9_takeWord 5 rfl, rfl⟩
theorem dX9_takeWord_12 : vm_at cX9_takeWord 12 (.aload_n 0) 1 13 ∧ ((0 : Fin 4) : Nat) = 0 := ⟨⟨vm_row tbX9_takeWord 6 rfl, rfl⟩, rfl⟩
theorem dX9_takeWord_13 : vm_at cX9_takeWord 13 (.getfield 25) 3 16 := ⟨vm_row tbX9_takeWord 7 rfl, rfl⟩
theorem dX9_takeWord_16 : vm_at cX9_takeWord 16 (.aload_n 0) 1 17 ∧ ((0 : Fin 4) : Nat) = 0 := ⟨⟨vm_row tbX9_takeWord 8 rfl, rfl⟩, rfl⟩
theorem dX9_takeWord_17 : vm_at cX9_takeWord 17 (.getfield 15) 3 20 := ⟨vm_row tbX9_takeWord 9 rfl, rfl⟩
theorem dX9_takeWord_20 : vm_br cX9_takeWord 20 (.if_icmp .ge 31) 3 23 (31) 51 := ⟨vm_row tbX9_takeWord 10 rfl, rfl, rfl⟩
theorem dX9_takeWord_23 : vm_at cX9_takeWord 23 (.aload_n 0) 1 24 ∧ ((0 : Fin 4) : Nat) = 0 := ⟨⟨vm_row tbX9_takeWord 11 rfl, rfl⟩, rfl⟩
theorem dX9_takeWord_24 : vm_at cX9_takeWord 24 (.aload_n 0) 1 25 ∧ ((0 : Fin 4) : Nat) = 0 := ⟨⟨vm_row tbX9_takeWord 12 rfl, rfl⟩, rfl⟩
theorem dX9_takeWord_25 : vm_at cX9_takeWord 25 (.getfield 25) 3 28 := ⟨vm_row tbX9_takeWord 13 rfl, rfl⟩
theorem dX9_takeWord_28 : vm_at cX9_takeWord 28 (.bipush 97) 2 30 ∧ (Int8.ofInt (97)).toInt32 = (97 : Int32) := ⟨⟨vm_row tbX9_takeWord 14 rfl, rfl⟩, z_bipush_97⟩
theorem dX9_takeWord_30 : vm_at cX9_takeWord 30 (.bipush 122) 2 32 ∧ (Int8.ofInt (122)).toInt32 = (122 : Int32) := ⟨⟨vm_row tbX9_takeWord 15 rfl, rfl⟩, z_bipush_122⟩
theorem dX9_takeWord_32 : vm_at cX9_takeWord 32 (.invokevirtual 100) 3 35 := ⟨vm_row tbX9_takeWord 16 rfl, rfl⟩
theorem dX9_takeWord_35 : vm_br cX9_takeWord 35 (.ifCond .eq 16) 3 38 (16) 51 := ⟨vm_row tbX9_takeWord 17 rfl, rfl, rfl⟩
theorem dX9_takeWord_38 : vm_at cX9_takeWord 38 (.aload_n 0) 1 39 ∧ ((0 : Fin 4) : Nat) = 0 := ⟨⟨vm_row tbX9_takeWord 18 rfl, rfl⟩, rfl⟩
theorem dX9_takeWord_39 : vm_at cX9_takeWord 39 (.dup) 1 40 := ⟨vm_row tbX9_takeWord 19 rfl, rfl⟩
theorem dX9_takeWord_40 : vm_at cX9_takeWord 40 (.getfield 25) 3 43 := ⟨vm_row tbX9_takeWord 20 rfl, rfl⟩
theorem dX9_takeWord_43 : vm_at cX9_takeWord 43 (.iconst 1) 1 44 ∧ Int32.ofInt (1) = (1 : Int32) := ⟨⟨vm_row tbX9_takeWord 21 rfl, rfl⟩, z_iconst_1⟩
theorem dX9_takeWord_44 : vm_at cX9_takeWord 44 (.iadd) 1 45 := ⟨vm_row tbX9_takeWord 22 rfl, rfl⟩
theorem dX9_takeWord_45 : vm_at cX9_takeWord 45 (.putfield 25) 3 48 := ⟨vm_row tbX9_takeWord 23 rfl, rfl⟩
theorem dX9_takeWord_48 : vm_br cX9_takeWord 48 (.goto (-36)) 3 51 (-36) 12 := ⟨vm_row tbX9_takeWord 24 rfl, rfl, rfl⟩
theorem dX9_takeWord_51 : vm_at cX9_takeWord 51 (.return_) 1 52 := ⟨vm_row tbX9_takeWord 25 rfl, rfl⟩
def tlX9_wordIs : List (Nat × Instr × Nat) := [(0, .aload_n 0, 1), (1, .getfield 25, 3), (4, .aload_n 0, 1), (5, .getfield 28, 3), (8, .isub, 1), (9, .aload_n 1, 1), (10, .invokevirtual 104, 3), (13, .if_icmp .eq 5, 3), (16, .iconst 0, 1), (17, .ireturn, 1), (18, .iconst 0, 1), (19, .istore_n 2, 1), (20, .iload_n 2, 1), (21, .aload_n 1, 1), (22, .invokevirtual 104, 3), (25, .if_icmp .ge 32, 3), (28, .aload_n 0, 1), (29, .getfield 9, 3), (32, .aload_n 0, 1), (33, .getfield 28, 3), (36, .iload_n 2, 1), (37, .iadd, 1), (38, .invokestatic 96, 3), (41, .aload_n 1, 1), (42, .iload_n 2, 1), (43, .invokevirtual 109, 3), (46, .if_icmp .eq 5, 3), (49, .iconst 0, 1), (50, .ireturn, 1), (51, .iinc 2 1, 3), (54, .goto (-34), 3), (57, .iconst 1, 1), (58, .ireturn, 1)]
theorem tbX9_wordIs : vm_chk cX9_wordIs tlX9_wordIs = true := by decide +kernel
theorem dX9_wordIs_0 : vm_at cX9_wordIs 0 (.aload_n 0) 1 1 ∧ ((0 : Fin 4) : Nat) = 0 := ⟨⟨vm_row tbX9_wordIs 0 rfl, rfl⟩, rfl⟩
theorem dX9_wordIs_1 : vm_at cX9_wordIs 1 (.getfield 25) 3 4 := ⟨vm_row tbX9_wordIs 1 rfl, rfl⟩
theorem dX9_wordIs_4 : vm_at cX9_wordIs 4 (.aload_n 0) 1 5 ∧ ((0 : Fin 4) : Nat) = 0 := ⟨⟨vm_row tbX9_wordIs 2 rfl, rfl⟩, rfl⟩
theorem dX9_wordIs_5 : vm_at cX9_wordIs 5 (.getfield 28) 3 8 := ⟨vm_row tbX9_wordIs 3 rfl, rfl⟩
theorem dX9_wordIs_8 : vm_at cX9_wordIs 8 (.isub) 1 9 := ⟨vm_row tbX9_wordIs 4 rfl, rfl⟩
theorem dX9_wordIs_9 : vm_at cX9_wordIs 9 (.aload_n 1) 1 10 ∧ ((1 : Fin 4) : Nat) = 1 := ⟨⟨vm_row tbX9_wordIs 5 rfl, rfl⟩, rfl⟩
theorem dX9_wordIs_10 : vm_at cX9_wordIs 10 (.invokevirtual 104) 3 13 := ⟨vm_row tbX9_wordIs 6 rfl, rfl⟩
theorem dX9_wordIs_13 : vm_br cX9_wordIs 13 (.if_icmp .eq 5) 3 16 (5) 18 := ⟨vm_row tbX9_wordIs 7 rfl, rfl, rfl⟩
theorem dX9_wordIs_16 : vm_at cX9_wordIs 16 (.iconst 0) 1 17 ∧ Int32.ofInt (0) = (0 : Int32) := ⟨⟨vm_row tbX9_wordIs 8 rfl, rfl⟩, z_iconst_0⟩
theorem dX9_wordIs_17 : vm_at cX9_wordIs 17 (.ireturn) 1 18 := ⟨vm_row tbX9_wordIs 9 rfl, rfl⟩
theorem dX9_wordIs_18 : vm_at cX9_wordIs 18 (.iconst 0) 1 19 ∧ Int32.ofInt (0) = (0 : Int32) := ⟨⟨vm_row tbX9_wordIs 10 rfl, rfl⟩, z_iconst_0⟩
theorem dX9_wordIs_19 : vm_at cX9_wordIs 19 (.istore_n 2) 1 20 ∧ ((2 : Fin 4) : Nat) = 2 := ⟨⟨vm_row tbX9_wordIs 11 rfl, rfl⟩, rfl⟩
theorem dX9_wordIs_20 : vm_at cX9_wordIs 20 (.iload_n 2) 1 21 ∧ ((2 : Fin 4) : Nat) = 2 := ⟨⟨vm_row tbX9_wordIs 12 rfl, rfl⟩, rfl⟩
theorem dX9_wordIs_21 : vm_at cX9_wordIs 21 (.aload_n 1) 1 22 ∧ ((1 : Fin 4) : Nat) = 1 := ⟨⟨vm_row tbX9_wordIs 13 rfl, rfl⟩, rfl⟩
theorem dX9_wordIs_22 : vm_at cX9_wordIs 22 (.invokevirtual 104) 3 25 := ⟨vm_row tbX9_wordIs 14 rfl, rfl⟩
theorem dX9_wordIs_25 : vm_br cX9_wordIs 25 (.if_icmp .ge 32) 3 28 (32) 57 := ⟨vm_row tbX9_wordIs 15 rfl, rfl, rfl⟩
theorem dX9_wordIs_28 : vm_at cX9_wordIs 28 (.aload_n 0) 1 29 ∧ ((0 : Fin 4) : Nat) = 0 := ⟨⟨vm_row tbX9_wordIs 16 rfl, rfl⟩, rfl⟩
theorem dX9_wordIs_29 : vm_at cX9_wordIs 29 (.getfield 9) 3 32 := ⟨vm_row tbX9_wordIs 17 rfl, rfl⟩
theorem dX9_wordIs_32 : vm_at cX9_wordIs 32 (.aload_n 0) 1 33 ∧ ((0 : Fin 4) : Nat) = 0 := ⟨⟨vm_row tbX9_wordIs 18 rfl, rfl⟩, rfl⟩
theorem dX9_wordIs_33 : vm_at cX9_wordIs 33 (.getfield 28) 3 36 := ⟨vm_row tbX9_wordIs 19 rfl, rfl⟩
theorem dX9_wordIs_36 : vm_at cX9_wordIs 36 (.iload_n 2) 1 37 ∧ ((2 : Fin 4) : Nat) = 2 := ⟨⟨vm_row tbX9_wordIs 20 rfl, rfl⟩, rfl⟩
theorem dX9_wordIs_37 : vm_at cX9_wordIs 37 (.iadd) 1 38 := ⟨vm_row tbX9_wordIs 21 rfl, rfl⟩
theorem dX9_wordIs_38 : vm_at cX9_wordIs 38 (.invokestatic 96) 3 41 := ⟨vm_row tbX9_wordIs 22 rfl, rfl⟩
theorem dX9_wordIs_41 : vm_at cX9_wordIs 41 (.aload_n 1) 1 42 ∧ ((1 : Fin 4) : Nat) = 1 := ⟨⟨vm_row tbX9_wordIs 23 rfl, rfl⟩, rfl⟩
theorem dX9_wordIs_42 : vm_at cX9_wordIs 42 (.iload_n 2) 1 43 ∧ ((2 : Fin 4) : Nat) = 2 := ⟨⟨vm_row tbX9_wordIs 24 rfl, rfl⟩, rfl⟩
theorem dX9_wordIs_43 : vm_at cX9_wordIs 43 (.invokevirtual 109) 3 46 := ⟨vm_row tbX9_wordIs 25 rfl, rfl⟩
theorem dX9_wordIs_46 : vm_br cX9_wordIs 46 (.if_icmp .eq 5) 3 49 (5) 51 := ⟨vm_row tbX9_wordIs 26 rfl, rfl, rfl⟩
theorem dX9_wordIs_49 : vm_at cX9_wordIs 49 (.iconst 0) 1 50 ∧ Int32.ofInt (0) = (0 : Int32) := ⟨⟨vm_row tbX9_wordIs 27 rfl, rfl⟩, z_iconst_0⟩
theorem dX9_wordIs_50 : vm_at cX9_wordIs 50 (.ireturn) 1 51 := ⟨vm_row tbX9_wordIs 28 rfl, rfl⟩
theorem dX9_wordIs_51 : vm_at cX9_wordIs 51 (.iinc 2 1) 3 54 ∧ Int32.ofInt (1) = (1 : Int32) := ⟨⟨vm_row tbX9_wordIs 29 rfl, rfl⟩, z_iconst_1⟩
theorem dX9_wordIs_54 : vm_br cX9_wordIs 54 (.goto (-34)) 3 57 (-34) 20 := ⟨vm_row tbX9_wordIs 30 rfl, rfl, rfl⟩
theorem dX9_wordIs_57 : vm_at cX9_wordIs 57 (.iconst 1) 1 58 ∧ Int32.ofInt (1) = (1 : Int32) := ⟨⟨vm_row tbX9_wordIs 31 rfl, rfl⟩, z_iconst_1⟩
theorem dX9_wordIs_58 : vm_at cX9_wordIs 58 (.ireturn) 1 59 := ⟨vm_row tbX9_wordIs 32 rfl, rfl⟩
def tlX9_kindOfWord : List (Nat × Instr × Nat) := [(0, .aload_n 0, 1), (1, .ldc 113, 2), (3, .invokevirtual 57, 3), (6, .ifCond .eq 5, 3), (9, .iconst 0, 1), (10, .ireturn, 1), (11, .aload_n 0, 1), (12, .ldc 115, 2), (14, .invokevirtual 57, 3), (17, .ifCond .eq 5, 3), (20, .iconst 1, 1), (21, .ireturn, 1), (22, .aload_n 0, 1), (23, .ldc 117, 2), (25, .invokevirtual 57, 3), (28, .ifCond .eq 5, 3), (31, .iconst 2, 1), (32, .ireturn, 1), (33, .aload_n 0, 1), (34, .ldc 119, 2), (36, .invokevirtual 57, 3), (39, .ifCond .eq 5, 3), (42, .iconst 3, 1), (43, .ireturn, 1), (44, .aload_n 0, 1), (45, .ldc 121, 2), (47, .invokevirtual 57, 3), (50, .ifCond .eq 5, 3), (53, .iconst 4, 1), (54, .ireturn, 1), (55, .aload_n 0, 1), (56, .ldc 123, 2), (58, .invokevirtual 57, 3), (61, .ifCond .eq 5, 3), (64, .iconst 5, 1), (65, .ireturn, 1), (66, .aload_n 0, 1), (67, .ldc 125, 2), (69, .invokevirtual 57, 3), (72, .ifCond .eq 6, 3), (75, .bipush 6, 2), (77, .ireturn, 1), (78, .aload_n 0, 1), (79, .ldc 127, 2), (81, .invokevirtual 57, 3), (84, .ifCond .eq 8, 3), (87, .bipush 7, 2), (89, .goto 4, 3), (92, .iconst (-1), 1), (93, .ireturn, 1)]
theorem tbX9_kindOfWord : vm_chk cX9_kindOfWord tlX9_kindOfWord = true := by decide +kernel
theorem dX9_kindOfWord_0 : vm_at cX9_kindOfWord 0 (.aload_n 0) 1 1 ∧ ((0 : Fin 4) : Nat) = 0 := ⟨⟨vm_row tbX9_kindOfWord 0 rfl, rfl⟩, rfl⟩
theorem dX9_kindOfWord_1 : vm_at cX9_kindOfWord 1 (.ldc 113) 2 3 := ⟨vm_row tbX9_kindOfWord 1 rfl, rfl⟩
theorem dX9_kindOfWord_3 : vm_at cX9_kindOfWord 3 (.invokevirtual 57) 3 6 := ⟨vm_row tbX9_kindOfWord 2 rfl, rfl⟩
theorem dX9_kindOfWord_6 : vm_br cX9_kindOfWord 6 (.ifCond .eq 5) 3 9 (5) 11 := ⟨vm_row tbX9_kindOfWord 3 rfl, rfl, rfl⟩
theorem dX9_kindOfWord_9 : vm_at cX9_kindOfWord 9 (.iconst 0) 1 10 ∧ Int32.ofInt (0) = (0 : Int32) := ⟨⟨vm_row tbX9_kindOfWord 4 rfl, rfl⟩, z_iconst_0⟩
theorem dX9_kindOfWord_10 : vm_at cX9_kindOfWord 10 (.ireturn) 1 11 := ⟨vm_row tbX9_kindOfWord 5 rfl, rfl⟩
theorem dX9_kindOfWord_11 : vm_at cX9_kindOfWord 11 (.aload_n 0) 1 12 ∧ ((0 : Fin 4) : Nat) = 0 := ⟨⟨vm_row tbX9_kindOfWord 6 rfl, rfl⟩, rfl⟩
theorem dX9_kindOfWord_12 : vm_at cX9_kindOfWord 12 (.ldc 115) 2 14 := ⟨vm_row tbX9_kindOfWord 7 rfl, rfl⟩
theorem dX9_kindOfWord_14 : vm_at cX9_kindOfWord 14 (.invokevirtual 57) 3 17 := ⟨vm_row tbX9_kindOfWord 8 rfl, rfl⟩
theorem dX9_kindOfWord_17 : vm_br cX9_kindOfWord 17 (.ifCond .eq 5) 3 20 (5) 22 := ⟨vm_row tbX9_kindOfWord 9 rfl, rfl, rfl⟩
theorem dX9_kindOfWord_20 : vm_at cX9_kindOfWord 20 (.iconst 1) 1 21 ∧ Int32.ofInt (1) = (1 : Int32) := ⟨⟨vm_row tbX9_kindOfWord 10 rfl, rfl⟩, z_iconst_1⟩
theorem dX9_kindOfWord_21 : vm_at cX9_kindOfWord 21 (.ireturn) 1 22 := ⟨vm_row tbX9_kindOfWord 11 rfl, rfl⟩
theorem dX9_kindOfWord_22 : vm_at cX9_kindOfWord 22 (.aload_n 0) 1 23 ∧ ((0 : Fin 4) : Nat) = 0 := ⟨⟨vm_row tbX9_kindOfWord 12 rfl, rfl⟩, rfl⟩
theorem dX9_kindOfWord_23 : vm_at cX9_kindOfWord 23 (.ldc 117) 2 25 := ⟨vm_row tbX9_kindOfWord 13 rfl, rfl⟩
theorem dX9_kindOfWord_25 : vm_at cX9_kindOfWord 25 (.invokevirtual 57) 3 28 := ⟨vm_row tbX9_kindOfWord 14 rfl, rfl⟩
theorem dX9_kindOfWord_28 : vm_br cX9_kindOfWord 28 (.ifCond .eq 5) 3 31 (5) 33 := ⟨vm_row tbX9_kindOfWord 15 rfl, rfl, rfl⟩
theorem dX9_kindOfWord_31 : vm_at cX9_kindOfWord 31 (.iconst 2) 1 32 ∧ Int32.ofInt (2) = (2 : Int32) := ⟨⟨vm_row tbX9_kindOfWord 16 rfl, rfl⟩, z_iconst_2⟩
theorem dX9_kindOfWord_32 : vm_at cX9_kindOfWord 32 (.ireturn) 1 33 := ⟨vm_row tbX9_kindOfWord 17 rfl, rfl⟩
theorem dX9_kindOfWord_33 : vm_at cX9_kindOfWord 33 (.aload_n 0) 1 34 ∧ ((0 : Fin 4) : Nat) = 0 := ⟨⟨vm_row tbX9_kindOfWord 18 rfl, rfl⟩, rfl⟩
theorem dX9_kindOfWord_34 : vm_at cX9_kindOfWord 34 (.ldc 119) 2 36 := ⟨vm_row tbX9_kindOfWord 19 rfl, rfl⟩
theorem dX9_kindOfWord_36 : vm_at cX9_kindOfWord 36 (.invokevirtual 57) 3 39 := ⟨vm_row tbX9_kindOfWord 20 rfl, rfl⟩
theorem dX9_kindOfWord_39 : vm_br cX9_kindOfWord 39 (.ifCond .eq 5) 3 42 (5) 44 := ⟨vm_row tbX9_kindOfWord 21 rfl, rfl, rfl⟩
theorem dX9_kindOfWord_42 : vm_at cX9_kindOfWord 42 (.iconst 3) 1 43 ∧ Int32.ofInt (3) = (3 : Int32) := ⟨⟨vm_row tbX9_kindOfWord 22 rfl, rfl⟩, z_iconst_3⟩
theorem dX9_kindOfWord_43 : vm_at cX9_kindOfWord 43 (.ireturn) 1 44 := ⟨vm_row tbX9_kindOfWord 23 rfl, rfl⟩
theorem dX9_kindOfWord_44 : vm_at cX9_kindOfWord 44 (.aload_n 0) 1 45 ∧ ((0 : Fin 4) : Nat) = 0 := ⟨⟨vm_row tbX9_kindOfWord 24 rfl, rfl⟩, rfl⟩
theorem dX9_kindOfWord_45 : vm_at cX9_kindOfWord 45 (.ldc 121) 2 47 := ⟨vm_row tbX9_kindOfWord 25 rfl, rfl⟩
theorem dX9_kindOfWord_47 : vm_at cX9_kindOfWord 47 (.invokevirtual 57) 3 50 := ⟨vm_row tbX9_kindOfWord 26 rfl, rfl⟩
theorem dX9_kindOfWord_50 : vm_br cX9_kindOfWord 50 (.ifCond .eq 5) 3 53 (5) 55 := ⟨vm_row tbX9_kindOfWord 27 rfl, rfl, rfl⟩
theorem dX9_kindOfWord_53 : vm_at cX9_kindOfWord 53 (.iconst 4) 1 54 ∧ Int32.ofInt (4) = (4 : Int32) := ⟨⟨vm_row tbX9_kindOfWord 28 rfl, rfl⟩, z_iconst_4⟩
theorem dX9_kindOfWord_54 : vm_at cX9_kindOfWord 54 (.ireturn) 1 55 := ⟨vm_row tbX9_kindOfWord 29 rfl, rfl⟩
theorem dX9_kindOfWord_55 : vm_at cX9_kindOfWord 55 (.aload_n 0) 1 56 ∧ ((0 : Fin 4) : Nat) = 0 := ⟨⟨vm_row tbX9_kindOfWord 30 rfl, rfl⟩, rfl⟩
theorem dX9_kindOfWord_56 : vm_at cX9_kindOfWord 56 (.ldc 123) 2 58 := ⟨vm_row tbX9_kindOfWord 31 rfl, rfl⟩
theorem dX9_kindOfWord_58 : vm_at cX9_kindOfWord 58 (.invokevirtual 57) 3 61 := ⟨vm_row tbX9_kindOfWord 32 rfl, rfl⟩
theorem dX9_kindOfWord_61 : vm_br cX9_kindOfWord 61 (.ifCond .eq 5) 3 64 (5) 66 := ⟨vm_row tbX9_kindOfWord 33 rfl, rfl, rfl⟩
theorem dX9_kindOfWord_64 : vm_at cX9_kindOfWord 64 (.iconst 5) 1 65 ∧ Int32.ofInt (5) = (5 : Int32) := ⟨⟨vm_row tbX9_kindOfWord 34 rfl, rfl⟩, z_iconst_5⟩
theorem dX9_kindOfWord_65 : vm_at cX9_kindOfWord 65 (.ireturn) 1 66 := ⟨vm_row tbX9_kindOfWord 35 rfl, rfl⟩
theorem dX9_kindOfWord_66 : vm_at cX9_kindOfWord 66 (.aload_n 0) 1 67 ∧ ((0 : Fin 4) : Nat) = 0 := ⟨⟨vm_row tbX9_kindOfWord 36 rfl, rfl⟩, rfl⟩
theorem dX9_kindOfWord_67 : vm_at cX9_kindOfWord 67 (.ldc 125) 2 69 := ⟨vm_row tbX9_kindOfWord 37 rfl, rfl⟩
theorem dX9_kindOfWord_69 : vm_at cX9_kindOfWord 69 (.invokevirtual 57) 3 72 := ⟨vm_row tbX9_kindOfWord 38 rfl, rfl⟩
theorem dX9_kindOfWord_72 : vm_br cX9_kindOfWord 72 (.ifCond .eq 6) 3 75 (6) 78 := ⟨vm_row tbX9_kindOfWord 39 rfl, rfl, rfl⟩
theorem dX9_kindOfWord_75 : vm_at cX9_kindOfWord 75 (.bipush 6) 2 77 ∧ (Int8.ofInt (6)).toInt32 = (6 : Int32) := ⟨⟨vm_row tbX9_kindOfWord 40 rfl, rfl⟩, z_bipush_6⟩
theorem dX9_kindOfWord_77 : vm_at cX9_kindOfWord 77 (.ireturn) 1 78 := ⟨vm_row tbX9_kindOfWord 41 rfl, rfl⟩
theorem dX9_kindOfWord_78 : vm_at cX9_kindOfWord 78 (.aload_n 0) 1 79 ∧ ((0 : Fin 4) : Nat) = 0 := ⟨⟨vm_row tbX9_kindOfWord 42 rfl, rfl⟩, rfl⟩
theorem dX9_kindOfWord_79 : vm_at cX9_kindOfWord 79 (.ldc 127) 2 81 := ⟨vm_row tbX9_kindOfWord 43 rfl, rfl⟩
theorem dX9_kindOfWord_81 : vm_at cX9_kindOfWord 81 (.invokevirtual 57) 3 84 := ⟨vm_row tbX9_kindOfWord 44 rfl, rfl⟩
theorem dX9_kindOfWord_84 : vm_br cX9_kindOfWord 84 (.ifCond .eq 8) 3 87 (8) 92 := ⟨vm_row tbX9_kindOfWord 45 rfl, rfl, rfl⟩
theorem dX9_kindOfWord_87 : vm_at cX9_kindOfWord 87 (.bipush 7) 2 89 ∧ (Int8.ofInt (7)).toInt32 = (7 : Int32) := ⟨⟨vm_row tbX9_kindOfWord 46 rfl, rfl⟩, z_bipush_7⟩
theorem dX9_kindOfWord_89 : vm_br cX9_kindOfWord 89 (.goto 4) 3 92 (4) 93 := ⟨vm_row tbX9_kindOfWord 47 rfl, rfl, rfl⟩
theorem dX9_kindOfWord_92 : vm_at cX9_kindOfWord 92 (.iconst (-1)) 1 93 ∧ Int32.ofInt (-1) = (-1 : Int32) := ⟨⟨vm_row tbX9_kindOfWord 48 rfl, rfl⟩, z_iconst_m1⟩
theorem dX9_kindOfWord_93 : vm_at cX9_kindOfWord 93 (.ireturn) 1 94 := ⟨vm_row tbX9_kindOfWord 49 rfl, rfl⟩
def tlX9_takeNumber : List (Nat × Instr × Nat) := [(0, .aload_n 0, 1), (1, .invokevirtual 42, 3), (4, .aload_n 0, 1), (5, .aload_n 0, 1), (6, .getfield 25, 3), (9, .putfield 31, 3), (12, .aload_n 0, 1), (13, .iconst 0, 1), (14, .putfield 34, 3), (17, .aload_n 0, 1), (18, .getfield 25, 3), (21, .aload_n 0, 1), (22, .getfield 15, 3), (25, .if_icmp .ge 70, 3), (28, .aload_n 0, 1), (29, .aload_n 0, 1), (30, .getfield 25, 3), (33, .bipush 48, 2), (35, .bipush 57, 2), (37, .invokevirtual 100, 3), (40, .ifCond .eq 55, 3), (43, .aload_n 0, 1), (44, .getfield 25, 3), (47, .aload_n 0, 1), (48, .getfield 31, 3), (51, .isub, 1), (52, .iconst 3, 1), (53, .if_icmp .ge 29, 3), (56, .aload_n 0, 1), (57, .aload_n 0, 1), (58, .getfield 34, 3), (61, .bipush 10, 2), (63, .imul, 1), (64, .aload_n 0, 1), (65, .getfield 9, 3), (68, .aload_n 0, 1), (69, .getfield 25, 3), (72, .invokestatic 96, 3), (75, .iadd, 1), (76, .bipush 48, 2), (78, .isub, 1), (79, .putfield 34, 3), (82, .aload_n 0, 1), (83, .dup, 1), (84, .getfield 25, 3), (87, .iconst 1, 1), (88, .iadd, 1), (89, .putfield 25, 3), (92, .goto (-75), 3), (95, .aload_n 0, 1), (96, .getfield 25, 3), (99, .aload_n 0, 1), (100, .getfield 31, 3), (103, .if_icmp .ne 13, 3), (106, .aload_n 0, 1), (107, .iconst 1, 1), (108, .aload_n 0, 1), (109, .getfield 25, 3), (112, .invokevirtual 61, 3), (115, .ireturn, 1), (116, .aload_n 0, 1), (117, .getfield 25, 3), (120, .aload_n 0, 1), (121, .getfield 31, 3), (124, .isub, 1), (125, .iconst 3, 1), (126, .if_icmp .gt 19, 3), (129, .aload_n 0, 1), (130, .getfield 34, 3), (133, .iload_n 1, 1), (134, .if_icmp .lt 11, 3), (137, .aload_n 0, 1), (138, .getfield 34, 3), (141, .iload_n 2, 1), (142, .if_icmp .le 13, 3), (145, .aload_n 0, 1), (146, .iconst 2, 1), (147, .aload_n 0, 1), (148, .getfield 31, 3), (151, .invokevirtual 61, 3), (154, .ireturn, 1), (155, .iconst 1, 1), (156, .ireturn, 1)]
theorem tbX9_takeNumber : vm_chk cX9_takeNumber tlX9_takeNumber = true := by decide +kernel
theorem dX9_takeNumber_0 : vm_at cX9_takeNumber 0 (.aload_n 0) 1 1 ∧ ((0 : Fin 4) : Nat) = 0 := ⟨⟨vm_row tbX9_takeNumber 0 rfl, rfl⟩, rfl⟩
theorem dX9_takeNumber_1 : vm_at cX9_takeNumber 1 (.invokevirtual 42) 3 4 := ⟨vm_row tbX9_takeNumber 1 rfl, rfl⟩
theorem dX9_takeNumber_4 : vm_at cX9_takeNumber 4 (.aload_n 0) 1 5 ∧ ((0 : Fin 4) : Nat) = 0 := ⟨⟨vm_row tbX9_takeNumber 2 rfl, rfl⟩, rfl⟩
theorem dX9_takeNumber_5 : vm_at cX9_takeNumber 5 (.aload_n 0) 1 6 ∧ ((0 : Fin 4) : Nat) = 0 := ⟨⟨vm_row tbX9_takeNumber 3 rfl, rfl⟩, rfl⟩
theorem dX9_takeNumber_6 : vm_at cX9_takeNumber 6 (.getfield 25) 3 9 := ⟨vm_row tbX9_takeNumber 4 rfl, rfl⟩
theorem dX9_takeNumber_9 : vm_at cX9_takeNumber 9 (.putfield 31) 3 12 := ⟨vm_row tbX9_takeNumber 5 rfl, rfl⟩
theorem dX9_takeNumber_12 : vm_at cX9_takeNumber 12 (.aload_n 0) 1 13 ∧ ((0 : Fin 4) : Nat) = 0 := ⟨⟨vm_row tbX9_takeNumber 6 rfl, rfl⟩, rfl⟩
theorem dX9_takeNumber_13 : vm_at cX9_takeNumber 13 (.iconst 0) 1 14 ∧ Int32.ofInt (0) = (0 : Int32) := ⟨⟨vm_row tbX9_takeNumber 7 rfl, rfl⟩, z_iconst_0⟩
theorem dX9_takeNumber_14 : vm_at cX9_takeNumber 14 (.putfield 34) 3 17 := ⟨vm_row tbX9_takeNumber 8 rfl, rfl⟩
theorem dX9_takeNumber_17 : vm_at cX9_takeNumber 17 (.aload_n 0) 1 18 ∧ ((0 : Fin 4) : Nat) = 0 := ⟨⟨vm_row tbX9_takeNumber 9 rfl, rfl⟩, rfl⟩
theorem dX9_takeNumber_18 : vm_at cX9_takeNumber 18 (.getfield 25) 3 21 := ⟨vm_row tbX9_takeNumber 10 rfl, rfl⟩
theorem dX9_takeNumber_21 : vm_at cX9_takeNumber 21 (.aload_n 0) 1 22 ∧ ((0 : Fin 4) : Nat) = 0 := ⟨⟨vm_row tbX9_takeNumber 11 rfl, rfl⟩, rfl⟩
theorem dX9_takeNumber_22 : vm_at cX9_takeNumber 22 (.getfield 15) 3 25 := ⟨vm_row tbX9_takeNumber 12 rfl, rfl⟩
theorem dX9_takeNumber_25 : vm_br cX9_takeNumber 25 (.if_icmp .ge 70) 3 28 (70) 95 := ⟨vm_row tbX9_takeNumber 13 rfl, rfl, rfl⟩
theorem dX9_takeNumber_28 : vm_at cX9_takeNumber 28 (.aload_n 0) 1 29 ∧ ((0 : Fin 4) : Nat) = 0 := ⟨⟨vm_row tbX9_takeNumber 14 rfl, rfl⟩, rfl⟩
theorem dX9_takeNumber_29 : vm_at cX9_takeNumber 29 (.aload_n 0) 1 30 ∧ ((0 : Fin 4) : Nat) = 0 := ⟨⟨vm_row tbX9_takeNumber 15 rfl, rfl⟩, rfl⟩
theorem dX9_takeNumber_30 : vm_at cX9_takeNumber 30 (.getfield 25) 3 33 := ⟨vm_row tbX9_takeNumber 16 rfl, rfl⟩
theorem dX9_takeNumber_33 : vm_at cX9_takeNumber 33 (.bipush 48) 2 35 ∧ (Int8.ofInt (48)).toInt32 = (48 : Int32) := ⟨⟨vm_row tbX9_takeNumber 17 rfl, rfl⟩, z_bipush_48⟩
theorem dX9_takeNumber_35 : vm_at cX9_takeNumber 35 (.bipush 57) 2 37 ∧ (Int8.ofInt (57)).toInt32 = (57 : Int32) := ⟨⟨vm_row tbX9_takeNumber 18 rfl, rfl⟩, z_bipush_57⟩
theorem dX9_takeNumber_37 : vm_at cX9_takeNumber 37 (.invokevirtual 100) 3 40 := ⟨vm_row tbX9_takeNumber 19 rfl, rfl⟩
theorem dX9_takeNumber_40 : vm_br cX9_takeNumber 40 (.ifCond .eq 55) 3 43 (55) 95 := ⟨vm_row tbX9_takeNumber 20 rfl, rfl, rfl⟩
theorem dX9_takeNumber_43 : vm_at cX9_takeNumber 43 (.aload_n 0) 1 44 ∧ ((0 : Fin 4) : Nat) = 0 := ⟨⟨vm_row tbX9_takeNumber 21 rfl, rfl⟩, rfl⟩
theorem dX9_takeNumber_44 : vm_at cX9_takeNumber 44 (.getfield 25) 3 47 := ⟨vm_row tbX9_takeNumber 22 rfl, rfl⟩
theorem dX9_takeNumber_47 : vm_at cX9_takeNumber 47 (.aload_n 0) 1 48 ∧ ((0 : Fin 4) : Nat) = 0 := ⟨⟨vm_row tbX9_takeNumber 23 rfl, rfl⟩, rfl⟩
theorem dX9_takeNumber_48 : vm_at cX9_takeNumber 48 (.getfield 31) 3 51 := ⟨vm_row tbX9_takeNumber 24 rfl, rfl⟩
theorem dX9_takeNumber_51 : vm_at cX9_takeNumber 51 (.isub) 1 52 := ⟨vm_row tbX9_takeNumber 25 rfl, rfl⟩
theorem dX9_takeNumber_52 : vm_at cX9_takeNumber 52 (.iconst 3) 1 53 ∧ Int32.ofInt (3) = (3 : Int32) := ⟨⟨vm_row tbX9_takeNumber 26 rfl, rfl⟩, z_iconst_3⟩
theorem dX9_takeNumber_53 : vm_br cX9_takeNumber 53 (.if_icmp .ge 29) 3 56 (29) 82 := ⟨vm_row tbX9_takeNumber 27 rfl, rfl, rfl⟩
theorem dX9_takeNumber_56 : vm_at cX9_takeNumber 56 (.aload_n 0) 1 57 ∧ ((0 : Fin 4) : Nat) = 0 := ⟨⟨vm_row tbX9_takeNumber 28 rfl, rfl⟩, rfl⟩
theorem dX9_takeNumber_57 : vm_at cX9_takeNumber 57 (.aload_n 0) 1 58 ∧ ((0 : Fin 4) : Nat) = 0 := ⟨⟨vm_row tbX9_takeNumber 29 rfl, rfl⟩, rfl⟩
theorem dX9_takeNumber_58 : vm_at cX9_takeNumber 58 (.getfield 34) 3 61 := ⟨vm_row tbX9_takeNumber 30 rfl, rfl⟩
theorem dX9_takeNumber_61 : vm_at cX9_takeNumber 61 (.bipush 10) 2 63 ∧ (Int8.ofInt (10)).toInt32 = (10 : Int32) := ⟨⟨vm_row tbX9_takeNumber 31 rfl, rfl⟩, z_bipush_10⟩
theorem dX9_takeNumber_63 : vm_at cX9_takeNumber 63 (.imul) 1 64 := ⟨vm_row tbX9_takeNumber 32 rfl, rfl⟩
theorem dX9_takeNumber_64 : vm_at cX9_takeNumber 64 (.aload_n 0) 1 65 ∧ ((0 : Fin 4) : Nat) = 0 := ⟨⟨vm_row tbX9_takeNumber 33 rfl, rfl⟩, rfl⟩
theorem dX9_takeNumber_65 : vm_at cX9_takeNumber 65 (.getfield 9) 3 68 := ⟨vm_row tbX9_takeNumber 34 rfl, rfl⟩
theorem dX9_takeNumber_68 : vm_at cX9_takeNumber 68 (.aload_n 0) 1 69 ∧ ((0 : Fin 4) : Nat) = 0 := ⟨⟨vm_row tbX9_takeNumber 35 rfl, rfl⟩, rfl⟩
theorem dX9_takeNumber_69 : vm_at cX9_takeNumber 69 (.getfield 25) 3 72 := ⟨vm_row tbX9_takeNumber 36 rfl, rfl⟩
theorem dX9_takeNumber_72 : vm_at cX9_takeNumber 72 (.invokestatic 96) 3 75 := ⟨vm_row tbX9_takeNumber 37 rfl, rfl⟩
theorem dX9_takeNumber_75 : vm_at cX9_takeNumber 75 (.iadd) 1 76 := ⟨vm_row tbX9_takeNumber 38 rfl, rfl⟩
theorem dX9_takeNumber_76 : vm_at cX9_takeNumber 76 (.bipush 48) 2 78 ∧ (Int8.ofInt (48)).toInt32 = (48 : Int32) := ⟨⟨vm_row tbX9_takeNumber 39 rfl, rfl⟩, z_bipush_48⟩
theorem dX9_takeNumber_78 : vm_at cX9_takeNumber 78 (.isub) 1 79 := ⟨vm_row tbX9_takeNumber 40 rfl, rfl⟩
theorem dX9_takeNumber_79 : vm_at cX9_takeNumber 79 (.putfield 34) 3 82 := ⟨vm_row tbX9_takeNumber 41 rfl, rfl⟩
theorem dX9_takeNumber_82 : vm_at cX9_takeNumber 82 (.aload_n 0) 1 83 ∧ ((0 : Fin 4) : Nat) = 0 := ⟨⟨vm_row tbX9_takeNumber 42 rfl, rfl⟩, rfl⟩
theorem dX9_takeNumber_83 : vm_at cX9_takeNumber 83 (.dup) 1 84 := ⟨vm_row tbX9_takeNumber 43 rfl, rfl⟩
theorem dX9_takeNumber_84 : vm_at cX9_takeNumber 84 (.getfield 25) 3 87 := ⟨vm_row tbX9_takeNumber 44 rfl, rfl⟩
theorem dX9_takeNumber_87 : vm_at cX9_takeNumber 87 (.iconst 1) 1 88 ∧ Int32.ofInt (1) = (1 : Int32) := ⟨⟨vm_row tbX9_takeNumber 45 rfl, rfl⟩, z_iconst_1⟩
theorem dX9_takeNumber_88 : vm_at cX9_takeNumber 88 (.iadd) 1 89 := ⟨vm_row tbX9_takeNumber 46 rfl, rfl⟩
theorem dX9_takeNumber_89 : vm_at cX9_takeNumber 89 (.putfield 25) 3 92 := ⟨vm_row tbX9_takeNumber 47 rfl, rfl⟩
theorem dX9_takeNumber_92 : vm_br cX9_takeNumber 92 (.goto (-75)) 3 95 (-75) 17 := ⟨vm_row tbX9_takeNumber 48 rfl, rfl, rfl⟩
theorem dX9_takeNumber_95 : vm_at cX9_takeNumber 95 (.aload_n 0) 1 96 ∧ ((0 : Fin 4) : Nat) = 0 := ⟨⟨vm_row tbX9_takeNumber 49 rfl, rfl⟩, rfl⟩
theorem dX9_takeNumber_96 : vm_at cX9_takeNumber 96 (.getfield 25) 3 99 := ⟨vm_row tbX9_takeNumber 50 rfl, rfl⟩
theorem dX9_takeNumber_99 : vm_at cX9_takeNumber 99 (.aload_n 0) 1 100 ∧ ((0 : Fin 4) : Nat) = 0 := ⟨⟨vm_row tbX9_takeNumber 51 rfl, rfl⟩, rfl⟩
theorem dX9_takeNumber_100 : vm_at cX9_takeNumber 100 (.getfield 31) 3 103 := ⟨vm_row tbX9_takeNumber 52 rfl, rfl⟩
theorem dX9_takeNumber_103 : vm_br cX9_takeNumber 103 (.if_icmp .ne 13) 3 106 (13) 116 := ⟨vm_row tbX9_takeNumber 53 rfl, rfl, rfl⟩
theorem dX9_takeNumber_106 : vm_at cX9_takeNumber 106 (.aload_n 0) 1 107 ∧ ((0 : Fin 4) : Nat) = 0 := ⟨⟨vm_row tbX9_takeNumber 54 rfl, rfl⟩, rfl⟩
theorem dX9_takeNumber_107 : vm_at cX9_takeNumber 107 (.iconst 1) 1 108 ∧ Int32.ofInt (1) = (1 : Int32) := ⟨⟨vm_row tbX9_takeNumber 55 rfl, rfl⟩, z_iconst_1⟩
theorem dX9_takeNumber_108 : vm_at cX9_takeNumber 108 (.aload_n 0) 1 109 ∧ ((0 : Fin 4) : Nat) = 0 := ⟨⟨vm_row tbX9_takeNumber 56 rfl, rfl⟩, rfl⟩
theorem dX9_takeNumber_109 : vm_at cX9_takeNumber 109 (.getfield 25) 3 112 := ⟨vm_row tbX9_takeNumber 57 rfl, rfl⟩
theorem dX9_takeNumber_112 : vm_at cX9_takeNumber 112 (.invokevirtual 61) 3 115 := ⟨vm_row tbX9_takeNumber 58 rfl, rfl⟩
theorem dX9_takeNumber_115 : vm_at cX9_takeNumber 115 (.ireturn) 1 116 := ⟨vm_row tbX9_takeNumber 59 rfl, rfl⟩
theorem dX9_takeNumber_116 : vm_at cX9_takeNumber 116 (.aload_n 0) 1 117 ∧ ((0 : Fin 4) : Nat) = 0 := ⟨⟨vm_row tbX9_takeNumber 60 rfl, rfl⟩, rfl⟩
theorem dX9_takeNumber_117 : vm_at cX9_takeNumber 117 (.getfield 25) 3 120 := ⟨vm_row tbX9_takeNumber 61 rfl, rfl⟩
theorem dX9_takeNumber_120 : vm_at cX9_takeNumber 120 (.aload_n 0) 1 121 ∧ ((0 : Fin 4) : Nat) = 0 := ⟨⟨vm_row tbX9_takeNumber 62 rfl, rfl⟩, rfl⟩
theorem dX9_takeNumber_121 : vm_at cX9_takeNumber 121 (.getfield 31) 3 124 := ⟨vm_row tbX9_takeNumber 63 rfl, rfl⟩
theorem dX9_takeNumber_124 : vm_at cX9_takeNumber 124 (.isub) 1 125 := ⟨vm_row tbX9_takeNumber 64 rfl, rfl⟩
theorem dX9_takeNumber_125 : vm_at cX9_takeNumber 125 (.iconst 3) 1 126 ∧ Int32.ofInt (3) = (3 : Int32) := ⟨⟨vm_row tbX9_takeNumber 65 rfl, rfl⟩, z_iconst_3⟩
theorem dX9_takeNumber_126 : vm_br cX9_takeNumber 126 (.if_icmp .gt 19) 3 129 (19) 145 := ⟨vm_row tbX9_takeNumber 66 rfl, rfl, rfl⟩
theorem dX9_takeNumber_129 : vm_at cX9_takeNumber 129 (.aload_n 0) 1 130 ∧ ((0 : Fin 4) : Nat) = 0 := ⟨⟨vm_row tbX9_takeNumber 67 rfl, rfl⟩, rfl⟩
theorem dX9_takeNumber_130 : vm_at cX9_takeNumber 130 (.getfield 34) 3 133 := ⟨vm_row tbX9_takeNumber 68 rfl, rfl⟩
theorem dX9_takeNumber_133 : vm_at cX9_takeNumber 133 (.iload_n 1) 1 134 ∧ ((1 : Fin 4) : Nat) = 1 := ⟨⟨vm_row tbX9_takeNumber 69 rfl, rfl⟩, rfl⟩
theorem dX9_takeNumber_134 : vm_br cX9_takeNumber 134 (.if_icmp .lt 11) 3 137 (11) 145 := ⟨vm_row tbX9_takeNumber 70 rfl, rfl, rfl⟩
theorem dX9_takeNumber_137 : vm_at cX9_takeNumber 137 (.aload_n 0) 1 138 ∧ ((0 : Fin 4) : Nat) = 0 := ⟨⟨vm_row tbX9_takeNumber 71 rfl, rfl⟩, rfl⟩
theorem dX9_takeNumber_138 : vm_at cX9_takeNumber 138 (.getfield 34) 3 141 := ⟨vm_row tbX9_takeNumber 72 rfl, rfl⟩
theorem dX9_takeNumber_141 : vm_at cX9_takeNumber 141 (.iload_n 2) 1 142 ∧ ((2 : Fin 4) : Nat) = 2 := ⟨⟨vm_row tbX9_takeNumber 73 rfl, rfl⟩, rfl⟩
theorem dX9_takeNumber_142 : vm_br cX9_takeNumber 142 (.if_icmp .le 13) 3 145 (13) 155 := ⟨vm_row tbX9_takeNumber 74 rfl, rfl, rfl⟩
theorem dX9_takeNumber_145 : vm_at cX9_takeNumber 145 (.aload_n 0) 1 146 ∧ ((0 : Fin 4) : Nat) = 0 := ⟨⟨vm_row tbX9_takeNumber 75 rfl, rfl⟩, rfl⟩
theorem dX9_takeNumber_146 : vm_at cX9_takeNumber 146 (.iconst 2) 1 147 ∧ Int32.ofInt (2) = (2 : Int32) := ⟨⟨vm_row tbX9_takeNumber 76 rfl, rfl⟩, z_iconst_2⟩
theorem dX9_takeNumber_147 : vm_at cX9_takeNumber 147 (.aload_n 0) 1 148 ∧ ((0 : Fin 4) : Nat) = 0 := ⟨⟨vm_row tbX9_takeNumber 77 rfl, rfl⟩, rfl⟩
theorem dX9_takeNumber_148 : vm_at cX9_takeNumber 148 (.getfield 31) 3 151 := ⟨vm_row tbX9_takeNumber 78 rfl, rfl⟩
theorem dX9_takeNumber_151 : vm_at cX9_takeNumber 151 (.invokevirtual 61) 3 154 := ⟨vm_row tbX9_takeNumber 79 rfl, rfl⟩
theorem dX9_takeNumber_154 : vm_at cX9_takeNumber 154 (.ireturn) 1 155 := ⟨vm_row tbX9_takeNumber 80 rfl, rfl⟩
theorem dX9_takeNumber_155 : vm_at cX9_takeNumber 155 (.iconst 1) 1 156 ∧ Int32.ofInt (1) = (1 : Int32) := ⟨⟨vm_row tbX9_takeNumber 81 rfl, rfl⟩, z_iconst_1⟩
theorem dX9_takeNumber_156 : vm_at cX9_takeNumber 156 (.ireturn) 1 157 := ⟨vm_row tbX9_takeNumber 82 rfl, rfl⟩
def tlX9_takeEnd : List (Nat × Instr × Nat) := [(0, .aload_n 0, 1), (1, .invokevirtual 42, 3), (4, .aload_n 0, 1), (5, .aload_n 0, 1), (6, .getfield 25, 3), (9, .bipush 59, 2), (11, .bipush 59, 2), (13, .invokevirtual 100, 3), (16, .ifCond .ne 13, 3), (19, .aload_n 0, 1), (20, .iconst 1, 1), (21, .aload_n 0, 1), (22, .getfield 25, 3), (25, .invokevirtual 61, 3), (28, .ireturn, 1), (29, .aload_n 0, 1), (30, .dup, 1), (31, .getfield 25, 3), (34, .iconst 1, 1), (35, .iadd, 1), (36, .putfield 25, 3), (39, .iconst 1, 1), (40, .ireturn, 1)]
theorem tbX9_takeEnd : vm_chk cX9_takeEnd tlX9_takeEnd = true := by decide +kernel
theorem dX9_takeEnd_0 : vm_at cX9_takeEnd 0 (.aload_n 0) 1 1 ∧ ((0 : Fin 4) : Nat) = 0 := ⟨⟨vm_row tbX9_takeEnd 0 rfl, rfl⟩, rfl⟩
theorem dX9_takeEnd_1 : vm_at cX9_takeEnd 1 (.invokevirtual 42) 3 4 := ⟨vm_row tbX9_takeEnd 1 rfl, rfl⟩
theorem dX9_takeEnd_4 : vm_at cX9_takeEnd 4 (.aload_n 0) 1 5 ∧ ((0 : Fin 4) : Nat) = 0 := ⟨⟨vm_row tbX9_takeEnd 2 rfl, rfl⟩, rfl⟩
theorem dX9_takeEnd_5 : vm_at cX9_takeEnd 5 (.aload_n 0) 1 6 ∧ ((0 : Fin 4) : Nat) = 0 := ⟨⟨vm_row tbX9_takeEnd 3 rfl, rfl⟩, rfl⟩
theorem dX9_takeEnd_6 : vm_at cX9_takeEnd 6 (.getfield 25) 3 9 := ⟨vm_row tbX9_takeEnd 4 rfl, rfl⟩
theorem dX9_takeEnd_9 : vm_at cX9_takeEnd 9 (.bipush 59) 2 11 ∧ (Int8.ofInt (59)).toInt32 = (59 : Int32) := ⟨⟨vm_row tbX9_takeEnd 5 rfl, rfl⟩, z_bipush_59⟩
theorem dX9_takeEnd_11 : vm_at cX9_takeEnd 11 (.bipush 59) 2 13 ∧ (Int8.ofInt (59)).toInt32 = (59 : Int32) := ⟨⟨vm_row tbX9_takeEnd 6 rfl, rfl⟩, z_bipush_59⟩
theorem dX9_takeEnd_13 : vm_at cX9_takeEnd 13 (.invokevirtual 100) 3 16 := ⟨vm_row tbX9_takeEnd 7 rfl, rfl⟩
theorem dX9_takeEnd_16 : vm_br cX9_takeEnd 16 (.ifCond .ne 13) 3 19 (13) 29 := ⟨vm_row tbX9_takeEnd 8 rfl, rfl, rfl⟩
theorem dX9_takeEnd_19 : vm_at cX9_takeEnd 19 (.aload_n 0) 1 20 ∧ ((0 : Fin 4) : Nat) = 0 := ⟨⟨vm_row tbX9_takeEnd 9 rfl, rfl⟩, rfl⟩
theorem dX9_takeEnd_20 : vm_at cX9_takeEnd 20 (.iconst 1) 1 21 ∧ Int32.ofInt (1) = (1 : Int32) := ⟨⟨vm_row tbX9_takeEnd 10 rfl, rfl⟩, z_iconst_1⟩
theorem dX9_takeEnd_21 : vm_at cX9_takeEnd 21 (.aload_n 0) 1 22 ∧ ((0 : Fin 4) : Nat) = 0 := ⟨⟨vm_row tbX9_takeEnd 11 rfl, rfl⟩, rfl⟩
theorem dX9_takeEnd_22 : vm_at cX9_takeEnd 22 (.getfield 25) 3 25 := ⟨vm_row tbX9_takeEnd 12 rfl, rfl⟩
theorem dX9_takeEnd_25 : vm_at cX9_takeEnd 25 (.invokevirtual 61) 3 28 := ⟨vm_row tbX9_takeEnd 13 rfl, rfl⟩
theorem dX9_takeEnd_28 : vm_at cX9_takeEnd 28 (.ireturn) 1 29 := ⟨vm_row tbX9_takeEnd 14 rfl, rfl⟩
theorem dX9_takeEnd_29 : vm_at cX9_takeEnd 29 (.aload_n 0) 1 30 ∧ ((0 : Fin 4) : Nat) = 0 := ⟨⟨vm_row tbX9_takeEnd 15 rfl, rfl⟩, rfl⟩
theorem dX9_takeEnd_30 : vm_at cX9_takeEnd 30 (.dup) 1 31 := ⟨vm_row tbX9_takeEnd 16 rfl, rfl⟩
theorem dX9_takeEnd_31 : vm_at cX9_takeEnd 31 (.getfield 25) 3 34 := ⟨vm_row tbX9_takeEnd 17 rfl, rfl⟩
theorem dX9_takeEnd_34 : vm_at cX9_takeEnd 34 (.iconst 1) 1 35 ∧ Int32.ofInt (1) = (1 : Int32) := ⟨⟨vm_row tbX9_takeEnd 18 rfl, rfl⟩, z_iconst_1⟩
theorem dX9_takeEnd_35 : vm_at cX9_takeEnd 35 (.iadd) 1 36 := ⟨vm_row tbX9_takeEnd 19 rfl, rfl⟩
theorem dX9_takeEnd_36 : vm_at cX9_takeEnd 36 (.putfield 25) 3 39 := ⟨vm_row tbX9_takeEnd 20 rfl, rfl⟩
theorem dX9_takeEnd_39 : vm_at cX9_takeEnd 39 (.iconst 1) 1 40 ∧ Int32.ofInt (1) = (1 : Int32) := ⟨⟨vm_row tbX9_takeEnd 21 rfl, rfl⟩, z_iconst_1⟩
theorem dX9_takeEnd_40 : vm_at cX9_takeEnd 40 (.ireturn) 1 41 := ⟨vm_row tbX9_takeEnd 22 rfl, rfl⟩
def tlX10_fewestToTell : List (Nat × Instr × Nat) := [(0, .aload_n 0, 1), (1, .iconst 0, 1), (2, .putfield 21, 3), (5, .iconst 0, 1), (6, .istore 4, 2), (8, .iload 4, 2), (10, .bipush 8, 2), (12, .if_icmp .ge 65, 3), (15, .iload_n 3, 1), (16, .iload 4, 2), (18, .ishr, 1), (19, .iconst 1, 1), (20, .iand, 1), (21, .ifCond .eq 50, 3), (24, .aload_n 0, 1), (25, .getfield 18, 3), (28, .aload_n 0, 1), (29, .getfield 21, 3), (32, .iload 4, 2), (34, .invokestatic 25, 3), (37, .aload_n 0, 1), (38, .getfield 9, 3), (41, .aload_n 0, 1), (42, .getfield 21, 3), (45, .iload_n 2, 1), (46, .invokestatic 25, 3), (49, .aload_n 0, 1), (50, .getfield 15, 3), (53, .aload_n 0, 1), (54, .getfield 21, 3), (57, .iconst 0, 1), (58, .invokestatic 25, 3), (61, .aload_n 0, 1), (62, .dup, 1), (63, .getfield 21, 3), (66, .iconst 1, 1), (67, .iadd, 1), (68, .putfield 21, 3), (71, .iinc 4 1, 3), (74, .goto (-66), 3), (77, .iconst 1, 1), (78, .istore 4, 2), (80, .iload 4, 2), (82, .iconst 4, 1), (83, .if_icmp .gt 23, 3), (86, .aload_n 0, 1), (87, .aload_n 1, 1), (88, .iconst 0, 1), (89, .iload 4, 2), (91, .invokestatic 29, 3), (94, .ifCond .eq 6, 3), (97, .iload 4, 2), (99, .ireturn, 1), (100, .iinc 4 1, 3), (103, .goto (-23), 3), (106, .iconst (-1), 1), (107, .ireturn, 1)]
theorem tbX10_fewestToTell : vm_chk cX10_fewestToTell tlX10_fewestToTell = true := by decide +kernel
theorem dX10_fewestToTell_0 : vm_at cX10_fewestToTell 0 (.aload_n 0) 1 1 ∧ ((0 : Fin 4) : Nat) = 0 := ⟨⟨vm_row tbX10_fewestToTell 0 rfl, rfl⟩, rfl⟩
theorem dX10_fewestToTell_1 : vm_at cX10_fewestToTell 1 (.iconst 0) 1 2 ∧ Int32.ofInt (0) = (0 : Int32) := ⟨⟨vm_row tbX10_fewestToTell 1 rfl, rfl⟩, z_iconst_0⟩
theorem dX10_fewestToTell_2 : vm_at cX10_fewestToTell 2 (.putfield 21) 3 5 := ⟨vm_row tbX10_fewestToTell 2 rfl, rfl⟩
theorem dX10_fewestToTell_5 : vm_at cX10_fewestToTell 5 (.iconst 0) 1 6 ∧ Int32.ofInt (0) = (0 : Int32) := ⟨⟨vm_row tbX10_fewestToTell 3 rfl, rfl⟩, z_iconst_0⟩
theorem dX10_fewestToTell_6 : vm_at cX10_fewestToTell 6 (.istore 4) 2 8 := ⟨vm_row tbX10_fewestToTell 4 rfl, rfl⟩
theorem dX10_fewestToTell_8 : vm_at cX10_fewestToTell 8 (.iload 4) 2 10 := ⟨vm_row tbX10_fewestToTell 5 rfl, rfl⟩
theorem dX10_fewestToTell_10 : vm_at cX10_fewestToTell 10 (.bipush 8) 2 12 ∧ (Int8.ofInt (8)).toInt32 = (8 : Int32) := ⟨⟨vm_row tbX10_fewestToTell 6 rfl, rfl⟩, z_bipush_8⟩
theorem dX10_fewestToTell_12 : vm_br cX10_fewestToTell 12 (.if_icmp .ge 65) 3 15 (65) 77 := ⟨vm_row tbX10_fewestToTell 7 rfl, rfl, rfl⟩
theorem dX10_fewestToTell_15 : vm_at cX10_fewestToTell 15 (.iload_n 3) 1 16 ∧ ((3 : Fin 4) : Nat) = 3 := ⟨⟨vm_row tbX10_fewestToTell 8 rfl, rfl⟩, rfl⟩
theorem dX10_fewestToTell_16 : vm_at cX10_fewestToTell 16 (.iload 4) 2 18 := ⟨vm_row tbX10_fewestToTell 9 rfl, rfl⟩
theorem dX10_fewestToTell_18 : vm_at cX10_fewestToTell 18 (.ishr) 1 19 := ⟨vm_row tbX10_fewestToTell 10 rfl, rfl⟩
theorem dX10_fewestToTell_19 : vm_at cX10_fewestToTell 19 (.iconst 1) 1 20 ∧ Int32.ofInt (1) = (1 : Int32) := ⟨⟨vm_row tbX10_fewestToTell 11 rfl, rfl⟩, z_iconst_1⟩
theorem dX10_fewestToTell_20 : vm_at cX10_fewestToTell 20 (.iand) 1 21 := ⟨vm_row tbX10_fewestToTell 12 rfl, rfl⟩
theorem dX10_fewestToTell_21 : vm_br cX10_fewestToTell 21 (.ifCond .eq 50) 3 24 (50) 71 := ⟨vm_row tbX10_fewestToTell 13 rfl, rfl, rfl⟩
theorem dX10_fewestToTell_24 : vm_at cX10_fewestToTell 24 (.aload_n 0) 1 25 ∧ ((0 : Fin 4) : Nat) = 0 := ⟨⟨vm_row tbX10_fewestToTell 14 rfl, rfl⟩, rfl⟩
theorem dX10_fewestToTell_25 : vm_at cX10_fewestToTell 25 (.getfield 18) 3 28 := ⟨vm_row tbX10_fewestToTell 15 rfl, rfl⟩
theorem dX10_fewestToTell_28 : vm_at cX10_fewestToTell 28 (.aload_n 0) 1 29 ∧ ((0 : Fin 4) : Nat) = 0 := ⟨⟨vm_row tbX10_fewestToTell 16 rfl, rfl⟩, rfl⟩
theorem dX10_fewestToTell_29 : vm_at cX10_fewestToTell 29 (.getfield 21) 3 32 := ⟨vm_row tbX10_fewestToTell 17 rfl, rfl⟩
theorem dX10_fewestToTell_32 : vm_at cX10_fewestToTell 32 (.iload 4) 2 34 := ⟨vm_row tbX10_fewestToTell 18 rfl, rfl⟩
theorem dX10_fewestToTell_34 : vm_at cX10_fewestToTell 34 (.invokestatic 25) 3 37 := ⟨vm_row tbX10_fewestToTell 19 rfl, rfl⟩
theorem dX10_fewestToTell_37 : vm_at cX10_fewestToTell 37 (.aload_n 0) 1 38 ∧ ((0 : Fin 4) : Nat) = 0 := ⟨⟨vm_row tbX10_fewestToTell 20 rfl, rfl⟩, rfl⟩
theorem dX10_fewestToTell_38 : vm_at cX10_fewestToTell 38 (.getfield 9) 3 41 := ⟨vm_row tbX10_fewestToTell 21 rfl, rfl⟩
theorem dX10_fewestToTell_41 : vm_at cX10_fewestToTell 41 (.aload_n 0) 1 42 ∧ ((0 : Fin 4) : Nat) = 0 := ⟨⟨vm_row tbX10_fewestToTell 22 rfl, rfl⟩, rfl⟩
theorem dX10_fewestToTell_42 : vm_at cX10_fewestToTell 42 (.getfield 21) 3 45 := ⟨vm_row tbX10_fewestToTell 23 rfl, rfl⟩
theorem dX10_fewestToTell_45 : vm_at cX10_fewestToTell 45 (.iload_n 2) 1 46 ∧ ((2 : Fin 4) : Nat) = 2 := ⟨⟨vm_row tbX10_fewestToTell 24 rfl, rfl⟩, rfl⟩
theorem dX10_fewestToTell_46 : vm_at cX10_fewestToTell 46 (.invokestatic 25) 3 49 := ⟨vm_row tbX10_fewestToTell 25 rfl, rfl⟩
theorem dX10_fewestToTell_49 : vm_at cX10_fewestToTell 49 (.aload_n 0) 1 50 ∧ ((0 : Fin 4) : Nat) = 0 := ⟨⟨vm_row tbX10_fewestToTell 26 rfl, rfl⟩, rfl⟩
theorem dX10_fewestToTell_50 : vm_at cX10_fewestToTell 50 (.getfield 15) 3 53 := ⟨vm_row tbX10_fewestToTell 27 rfl, rfl⟩
theorem dX10_fewestToTell_53 : vm_at cX10_fewestToTell 53 (.aload_n 0) 1 54 ∧ ((0 : Fin 4) : Nat) = 0 := ⟨⟨vm_row tbX10_fewestToTell 28 rfl, rfl⟩, rfl⟩
theorem dX10_fewestToTell_54 : vm_at cX10_fewestToTell 54 (.getfield 21) 3 57 := ⟨vm_row tbX10_fewestToTell 29 rfl, rfl⟩
theorem dX10_fewestToTell_57 : vm_at cX10_fewestToTell 57 (.iconst 0) 1 58 ∧ Int32.ofInt (0) = (0 : Int32) := ⟨⟨vm_row tbX10_fewestToTell 30 rfl, rfl⟩, z_iconst_0⟩
theorem dX10_fewestToTell_58 : vm_at cX10_fewestToTell 58 (.invokestatic 25) 3 61 := ⟨vm_row tbX10_fewestToTell 31 rfl, rfl⟩
theorem dX10_fewestToTell_61 : vm_at cX10_fewestToTell 61 (.aload_n 0) 1 62 ∧ ((0 : Fin 4) : Nat) = 0 := ⟨⟨vm_row tbX10_fewestToTell 32 rfl, rfl⟩, rfl⟩
theorem dX10_fewestToTell_62 : vm_at cX10_fewestToTell 62 (.dup) 1 63 := ⟨vm_row tbX10_fewestToTell 33 rfl, rfl⟩
theorem dX10_fewestToTell_63 : vm_at cX10_fewestToTell 63 (.getfield 21) 3 66 := ⟨vm_row tbX10_fewestToTell 34 rfl, rfl⟩
theorem dX10_fewestToTell_66 : vm_at cX10_fewestToTell 66 (.iconst 1) 1 67 ∧ Int32.ofInt (1) = (1 : Int32) := ⟨⟨vm_row tbX10_fewestToTell 35 rfl, rfl⟩, z_iconst_1⟩
theorem dX10_fewestToTell_67 : vm_at cX10_fewestToTell 67 (.iadd) 1 68 := ⟨vm_row tbX10_fewestToTell 36 rfl, rfl⟩
theorem dX10_fewestToTell_68 : vm_at cX10_fewestToTell 68 (.putfield 21) 3 71 := ⟨vm_row tbX10_fewestToTell 37 rfl, rfl⟩
theorem dX10_fewestToTell_71 : vm_at cX10_fewestToTell 71 (.iinc 4 1) 3 74 ∧ Int32.ofInt (1) = (1 : Int32) := ⟨⟨vm_row tbX10_fewestToTell 38 rfl, rfl⟩, z_iconst_1⟩
theorem dX10_fewestToTell_74 : vm_br cX10_fewestToTell 74 (.goto (-66)) 3 77 (-66) 8 := ⟨vm_row tbX10_fewestToTell 39 rfl, rfl, rfl⟩
theorem dX10_fewestToTell_77 : vm_at cX10_fewestToTell 77 (.iconst 1) 1 78 ∧ Int32.ofInt (1) = (1 : Int32) := ⟨⟨vm_row tbX10_fewestToTell 40 rfl, rfl⟩, z_iconst_1⟩
theorem dX10_fewestToTell_78 : vm_at cX10_fewestToTell 78 (.istore 4) 2 80 := ⟨vm_row tbX10_fewestToTell 41 rfl, rfl⟩
theorem dX10_fewestToTell_80 : vm_at cX10_fewestToTell 80 (.iload 4) 2 82 := ⟨vm_row tbX10_fewestToTell 42 rfl, rfl⟩
theorem dX10_fewestToTell_82 : vm_at cX10_fewestToTell 82 (.iconst 4) 1 83 ∧ Int32.ofInt (4) = (4 : Int32) := ⟨⟨vm_row tbX10_fewestToTell 43 rfl, rfl⟩, z_iconst_4⟩
theorem dX10_fewestToTell_83 : vm_br cX10_fewestToTell 83 (.if_icmp .gt 23) 3 86 (23) 106 := ⟨vm_row tbX10_fewestToTell 44 rfl, rfl, rfl⟩
theorem dX10_fewestToTell_86 : vm_at cX10_fewestToTell 86 (.aload_n 0) 1 87 ∧ ((0 : Fin 4) : Nat) = 0 := ⟨⟨vm_row tbX10_fewestToTell 45 rfl, rfl⟩, rfl⟩
theorem dX10_fewestToTell_87 : vm_at cX10_fewestToTell 87 (.aload_n 1) 1 88 ∧ ((1 : Fin 4) : Nat) = 1 := ⟨⟨vm_row tbX10_fewestToTell 46 rfl, rfl⟩, rfl⟩
theorem dX10_fewestToTell_88 : vm_at cX10_fewestToTell 88 (.iconst 0) 1 89 ∧ Int32.ofInt (0) = (0 : Int32) := ⟨⟨vm_row tbX10_fewestToTell 47 rfl, rfl⟩, z_iconst_0⟩
theorem dX10_fewestToTell_89 : vm_at cX10_fewestToTell 89 (.iload 4) 2 91 := ⟨vm_row tbX10_fewestToTell 48 rfl, rfl⟩
theorem dX10_fewestToTell_91 : vm_at cX10_fewestToTell 91 (.invokestatic 29) 3 94 := ⟨vm_row tbX10_fewestToTell 49 rfl, rfl⟩
theorem dX10_fewestToTell_94 : vm_br cX10_fewestToTell 94 (.ifCond .eq 6) 3 97 (6) 100 := ⟨vm_row tbX10_fewestToTell 50 rfl, rfl, rfl⟩
theorem dX10_fewestToTell_97 : vm_at cX10_fewestToTell 97 (.iload 4) 2 99 := ⟨vm_row tbX10_fewestToTell 51 rfl, rfl⟩
theorem dX10_fewestToTell_99 : vm_at cX10_fewestToTell 99 (.ireturn) 1 100 := ⟨vm_row tbX10_fewestToTell 52 rfl, rfl⟩
theorem dX10_fewestToTell_100 : vm_at cX10_fewestToTell 100 (.iinc 4 1) 3 103 ∧ Int32.ofInt (1) = (1 : Int32) := ⟨⟨vm_row tbX10_fewestToTell 53 rfl, rfl⟩, z_iconst_1⟩
theorem dX10_fewestToTell_103 : vm_br cX10_fewestToTell 103 (.goto (-23)) 3 106 (-23) 80 := ⟨vm_row tbX10_fewestToTell 54 rfl, rfl, rfl⟩
theorem dX10_fewestToTell_106 : vm_at cX10_fewestToTell 106 (.iconst (-1)) 1 107 ∧ Int32.ofInt (-1) = (-1 : Int32) := ⟨⟨vm_row tbX10_fewestToTell 55 rfl, rfl⟩, z_iconst_m1⟩
theorem dX10_fewestToTell_107 : vm_at cX10_fewestToTell 107 (.ireturn) 1 108 := ⟨vm_row tbX10_fewestToTell 56 rfl, rfl⟩
def tlX10_canTell : List (Nat × Instr × Nat) := [(0, .iload_n 2, 1), (1, .iload_n 3, 1), (2, .if_icmp .ge 8, 3), (5, .iload_n 2, 1), (6, .iconst 4, 1), (7, .if_icmp .lt 9, 3), (10, .aload_n 0, 1), (11, .iload_n 2, 1), (12, .invokevirtual 33, 3), (15, .ireturn, 1), (16, .iconst 0, 1), (17, .istore 4, 2), (19, .iload 4, 2), (21, .aload_n 1, 1), (22, .getfield 37, 3), (25, .if_icmp .gt 31, 3), (28, .aload_n 0, 1), (29, .aload_n 1, 1), (30, .iload_n 2, 1), (31, .iload 4, 2), (33, .invokevirtual 42, 3), (36, .aload_n 0, 1), (37, .aload_n 1, 1), (38, .iload_n 2, 1), (39, .iconst 1, 1), (40, .iadd, 1), (41, .iload_n 3, 1), (42, .invokestatic 29, 3), (45, .ifCond .eq 5, 3), (48, .iconst 1, 1), (49, .ireturn, 1), (50, .iinc 4 1, 3), (53, .goto (-34), 3), (56, .iconst 0, 1), (57, .ireturn, 1)]
theorem tbX10_canTell : vm_chk cX10_canTell tlX10_canTell = true := by decide +kernel
theorem dX10_canTell_0 : vm_at cX10_canTell 0 (.iload_n 2) 1 1 ∧ ((2 : Fin 4) : Nat) = 2 := ⟨⟨vm_row tbX10_canTell 0 rfl, rfl⟩, rfl⟩
theorem dX10_canTell_1 : vm_at cX10_canTell 1 (.iload_n 3) 1 2 ∧ ((3 : Fin 4) : Nat) = 3 := ⟨⟨vm_row tbX10_canTell 1 rfl, rfl⟩, rfl⟩
theorem dX10_canTell_2 : vm_br cX10_canTell 2 (.if_icmp .ge 8) 3 5 (8) 10 := ⟨vm_row tbX10_canTell 2 rfl, rfl, rfl⟩
theorem dX10_canTell_5 : vm_at cX10_canTell 5 (.iload_n 2) 1 6 ∧ ((2 : Fin 4) : Nat) = 2 := ⟨⟨vm_row tbX10_canTell 3 rfl, rfl⟩, rfl⟩
theorem dX10_canTell_6 : vm_at cX10_canTell 6 (.iconst 4) 1 7 ∧ Int32.ofInt (4) = (4 : Int32) := ⟨⟨vm_row tbX10_canTell 4 rfl, rfl⟩, z_iconst_4⟩
theorem dX10_canTell_7 : vm_br cX10_canTell 7 (.if_icmp .lt 9) 3 10 (9) 16 := ⟨vm_row tbX10_canTell 5 rfl, rfl, rfl⟩
theorem dX10_canTell_10 : vm_at cX10_canTell 10 (.aload_n 0) 1 11 ∧ ((0 : Fin 4) : Nat) = 0 := ⟨⟨vm_row tbX10_canTell 6 rfl, rfl⟩, rfl⟩
theorem dX10_canTell_11 : vm_at cX10_canTell 11 (.iload_n 2) 1 12 ∧ ((2 : Fin 4) : Nat) = 2 := ⟨⟨vm_row tbX10_canTell 7 rfl, rfl⟩, rfl⟩
theorem dX10_canTell_12 : vm_at cX10_canTell 12 (.invokevirtual 33) 3 15 := ⟨vm_row tbX10_canTell 8 rfl, rfl⟩
theorem dX10_canTell_15 : vm_at cX10_canTell 15 (.ireturn) 1 16 := ⟨vm_row tbX10_canTell 9 rfl, rfl⟩
theorem dX10_canTell_16 : vm_at cX10_canTell 16 (.iconst 0) 1 17 ∧ Int32.ofInt (0) = (0 : Int32) := ⟨⟨vm_row tbX10_canTell 10 rfl, rfl⟩, z_iconst_0⟩
theorem dX10_canTell_17 : vm_at cX10_canTell 17 (.istore 4) 2 19 := ⟨vm_row tbX10_canTell 11 rfl, rfl⟩
theorem dX10_canTell_19 : vm_at cX10_canTell 19 (.iload 4) 2 21 := ⟨vm_row tbX10_canTell 12 rfl, rfl⟩
theorem dX10_canTell_21 : vm_at cX10_canTell 21 (.aload_n 1) 1 22 ∧ ((1 : Fin 4) : Nat) = 1 := ⟨⟨vm_row tbX10_canTell 13 rfl, rfl⟩, rfl⟩
theorem dX10_canTell_22 : vm_at cX10_canTell 22 (.getfield 37) 3 25 := ⟨vm_row tbX10_canTell 14 rfl, rfl⟩
theorem dX10_canTell_25 : vm_br cX10_canTell 25 (.if_icmp .gt 31) 3 28 (31) 56 := ⟨vm_row tbX10_canTell 15 rfl, rfl, rfl⟩
theorem dX10_canTell_28 : vm_at cX10_canTell 28 (.aload_n 0) 1 29 ∧ ((0 : Fin 4) : Nat) = 0 := ⟨⟨vm_row tbX10_canTell 16 rfl, rfl⟩, rfl⟩
theorem dX10_canTell_29 : vm_at cX10_canTell 29 (.aload_n 1) 1 30 ∧ ((1 : Fin 4) : Nat) = 1 := ⟨⟨vm_row tbX10_canTell 17 rfl, rfl⟩, rfl⟩
theorem dX10_canTell_30 : vm_at cX10_canTell 30 (.iload_n 2) 1 31 ∧ ((2 : Fin 4) : Nat) = 2 := ⟨⟨vm_row tbX10_canTell 18 rfl, rfl⟩, rfl⟩
theorem dX10_canTell_31 : vm_at cX10_canTell 31 (.iload 4) 2 33 := ⟨vm_row tbX10_canTell 19 rfl, rfl⟩
theorem dX10_canTell_33 : vm_at cX10_canTell 33 (.invokevirtual 42) 3 36 := ⟨vm_row tbX10_canTell 20 rfl, rfl⟩
theorem dX10_canTell_36 : vm_at cX10_canTell 36 (.aload_n 0) 1 37 ∧ ((0 : Fin 4) : Nat) = 0 := ⟨⟨vm_row tbX10_canTell 21 rfl, rfl⟩, rfl⟩
theorem dX10_canTell_37 : vm_at cX10_canTell 37 (.aload_n 1) 1 38 ∧ ((1 : Fin 4) : Nat) = 1 := ⟨⟨vm_row tbX10_canTell 22 rfl, rfl⟩, rfl⟩
theorem dX10_canTell_38 : vm_at cX10_canTell 38 (.iload_n 2) 1 39 ∧ ((2 : Fin 4) : Nat) = 2 := ⟨⟨vm_row tbX10_canTell 23 rfl, rfl⟩, rfl⟩
theorem dX10_canTell_39 : vm_at cX10_canTell 39 (.iconst 1) 1 40 ∧ Int32.ofInt (1) = (1 : Int32) := ⟨⟨vm_row tbX10_canTell 24 rfl, rfl⟩, z_iconst_1⟩
theorem dX10_canTell_40 : vm_at cX10_canTell 40 (.iadd) 1 41 := ⟨vm_row tbX10_canTell 25 rfl, rfl⟩
theorem dX10_canTell_41 : vm_at cX10_canTell 41 (.iload_n 3) 1 42 ∧ ((3 : Fin 4) : Nat) = 3 := ⟨⟨vm_row tbX10_canTell 26 rfl, rfl⟩, rfl⟩
theorem dX10_canTell_42 : vm_at cX10_canTell 42 (.invokestatic 29) 3 45 := ⟨vm_row tbX10_canTell 27 rfl, rfl⟩
theorem dX10_canTell_45 : vm_br cX10_canTell 45 (.ifCond .eq 5) 3 48 (5) 50 := ⟨vm_row tbX10_canTell 28 rfl, rfl, rfl⟩
theorem dX10_canTell_48 : vm_at cX10_canTell 48 (.iconst 1) 1 49 ∧ Int32.ofInt (1) = (1 : Int32) := ⟨⟨vm_row tbX10_canTell 29 rfl, rfl⟩, z_iconst_1⟩
theorem dX10_canTell_49 : vm_at cX10_canTell 49 (.ireturn) 1 50 := ⟨vm_row tbX10_canTell 30 rfl, rfl⟩
theorem dX10_canTell_50 : vm_at cX10_canTell 50 (.iinc 4 1) 3 53 ∧ Int32.ofInt (1) = (1 : Int32) := ⟨⟨vm_row tbX10_canTell 31 rfl, rfl⟩, z_iconst_1⟩
theorem dX10_canTell_53 : vm_br cX10_canTell 53 (.goto (-34)) 3 56 (-34) 19 := ⟨vm_row tbX10_canTell 32 rfl, rfl, rfl⟩
theorem dX10_canTell_56 : vm_at cX10_canTell 56 (.iconst 0) 1 57 ∧ Int32.ofInt (0) = (0 : Int32) := ⟨⟨vm_row tbX10_canTell 33 rfl, rfl⟩, z_iconst_0⟩
theorem dX10_canTell_57 : vm_at cX10_canTell 57 (.ireturn) 1 58 := ⟨vm_row tbX10_canTell 34 rfl, rfl⟩
def tlX10_strokeAll : List (Nat × Instr × Nat) := [(0, .iload_n 2, 1), (1, .bipush 8, 2), (3, .imul, 1), (4, .istore 4, 2), (6, .iload 4, 2), (8, .bipush 8, 2), (10, .iadd, 1), (11, .istore 5, 2), (13, .iconst 0, 1), (14, .istore 6, 2), (16, .iload 6, 2), (18, .aload_n 0, 1), (19, .getfield 21, 3), (22, .if_icmp .ge 99, 3), (25, .iload_n 3, 1), (26, .aload_n 1, 1), (27, .getfield 37, 3), (30, .if_icmp .ne 15, 3), (33, .aload_n 0, 1), (34, .getfield 18, 3), (37, .iload 6, 2), (39, .invokestatic 46, 3), (42, .goto 4, 3), (45, .iload_n 3, 1), (46, .istore 7, 2), (48, .aload_n 1, 1), (49, .aload_n 0, 1), (50, .getfield 9, 3), (53, .iload 4, 2), (55, .iload 6, 2), (57, .iadd, 1), (58, .invokestatic 46, 3), (61, .iload 7, 2), (63, .invokevirtual 50, 3), (66, .istore 8, 2), (68, .aload_n 0, 1), (69, .getfield 9, 3), (72, .iload 5, 2), (74, .iload 6, 2), (76, .iadd, 1), (77, .iload 8, 2), (79, .invokestatic 25, 3), (82, .aload_n 0, 1), (83, .getfield 15, 3), (86, .iload 5, 2), (88, .iload 6, 2), (90, .iadd, 1), (91, .aload_n 0, 1), (92, .getfield 15, 3), (95, .iload 4, 2), (97, .iload 6, 2), (99, .iadd, 1), (100, .invokestatic 46, 3), (103, .bipush 7, 2), (105, .ishl, 1), (106, .iload 8, 2), (108, .invokestatic 54, 3), (111, .ior, 1), (112, .invokestatic 25, 3), (115, .iinc 6 1, 3), (118, .goto (-102), 3), (121, .return_, 1)]
theorem tbX10_strokeAll : vm_chk cX10_strokeAll tlX10_strokeAll = true := by decide +kernel
theorem dX10_strokeAll_0 : vm_at cX10_strokeAll 0 (.iload_n 2) 1 1 ∧ ((2 : Fin 4) : Nat) = 2 := ⟨⟨vm_row tbX10_strokeAll 0 rfl, rfl⟩, rfl⟩
theorem dX10_strokeAll_1 : vm_at cX10_strokeAll 1 (.bipush 8) 2 3 ∧ (Int8.ofInt (8)).toInt32 = (8 : Int32) := ⟨⟨vm_row tbX10_strokeAll 1 rfl, rfl⟩, z_bipush_8⟩
theorem dX10_strokeAll_3 : vm_at cX10_strokeAll 3 (.imul) 1 4 := ⟨vm_row tbX10_strokeAll 2 rfl, rfl⟩
theorem dX10_strokeAll_4 : vm_at cX10_strokeAll 4 (.istore 4) 2 6 := ⟨vm_row tbX10_strokeAll 3 rfl, rfl⟩
theorem dX10_strokeAll_6 : vm_at cX10_strokeAll 6 (.iload 4) 2 8 := ⟨vm_row tbX10_strokeAll 4 rfl, rfl⟩
theorem dX10_strokeAll_8 : vm_at cX10_strokeAll 8 (.bipush 8) 2 10 ∧ (Int8.ofInt (8)).toInt32 = (8 : Int32) := ⟨⟨vm_row tbX10_strokeAll 5 rfl, rfl⟩, z_bipush_8⟩
theorem dX10_strokeAll_10 : vm_at cX10_strokeAll 10 (.iadd) 1 11 := ⟨vm_row tbX10_strokeAll 6 rfl, rfl⟩
theorem dX10_strokeAll_11 : vm_at cX10_strokeAll 11 (.istore 5) 2 13 := ⟨vm_row tbX10_strokeAll 7 rfl, rfl⟩
theorem dX10_strokeAll_13 : vm_at cX10_strokeAll 13 (.iconst 0) 1 14 ∧ Int32.ofInt (0) = (0 : Int32) := ⟨⟨vm_row tbX10_strokeAll 8 rfl, rfl⟩, z_iconst_0⟩
theorem dX10_strokeAll_14 : vm_at cX10_strokeAll 14 (.istore 6) 2 16 := ⟨vm_row tbX10_strokeAll 9 rfl, rfl⟩
theorem dX10_strokeAll_16 : vm_at cX10_strokeAll 16 (.iload 6) 2 18 := ⟨vm_row tbX10_strokeAll 10 rfl, rfl⟩
theorem dX10_strokeAll_18 : vm_at cX10_strokeAll 18 (.aload_n 0) 1 19 ∧ ((0 : Fin 4) : Nat) = 0 := ⟨⟨vm_row tbX10_strokeAll 11 rfl, rfl⟩, rfl⟩
theorem dX10_strokeAll_19 : vm_at cX10_strokeAll 19 (.getfield 21) 3 22 := ⟨vm_row tbX10_strokeAll 12 rfl, rfl⟩
theorem dX10_strokeAll_22 : vm_br cX10_strokeAll 22 (.if_icmp .ge 99) 3 25 (99) 121 := ⟨vm_row tbX10_strokeAll 13 rfl, rfl, rfl⟩
theorem dX10_strokeAll_25 : vm_at cX10_strokeAll 25 (.iload_n 3) 1 26 ∧ ((3 : Fin 4) : Nat) = 3 := ⟨⟨vm_row tbX10_strokeAll 14 rfl, rfl⟩, rfl⟩
theorem dX10_strokeAll_26 : vm_at cX10_strokeAll 26 (.aload_n 1) 1 27 ∧ ((1 : Fin 4) : Nat) = 1 := ⟨⟨vm_row tbX10_strokeAll 15 rfl, rfl⟩, rfl⟩
theorem dX10_strokeAll_27 : vm_at cX10_strokeAll 27 (.getfield 37) 3 30 := ⟨vm_row tbX10_strokeAll 16 rfl, rfl⟩
theorem dX10_strokeAll_30 : vm_br cX10_strokeAll 30 (.if_icmp .ne 15) 3 33 (15) 45 := ⟨vm_row tbX10_strokeAll 17 rfl, rfl, rfl⟩
theorem dX10_strokeAll_33 : vm_at cX10_strokeAll 33 (.aload_n 0) 1 34 ∧ ((0 : Fin 4) : Nat) = 0 := ⟨⟨vm_row tbX10_strokeAll 18 rfl, rfl⟩, rfl⟩
theorem dX10_strokeAll_34 : vm_at cX10_strokeAll 34 (.getfield 18) 3 37 := ⟨vm_row tbX10_strokeAll 19 rfl, rfl⟩
theorem dX10_strokeAll_37 : vm_at cX10_strokeAll 37 (.iload 6) 2 39 := ⟨vm_row tbX10_strokeAll 20 rfl, rfl⟩
theorem dX10_strokeAll_39 : vm_at cX10_strokeAll 39 (.invokestatic 46) 3 42 := ⟨vm_row tbX10_strokeAll 21 rfl, rfl⟩
theorem dX10_strokeAll_42 : vm_br cX10_strokeAll 42 (.goto 4) 3 45 (4) 46 := ⟨vm_row tbX10_strokeAll 22 rfl, rfl, rfl⟩
theorem dX10_strokeAll_45 : vm_at cX10_strokeAll 45 (.iload_n 3) 1 46 ∧ ((3 : Fin 4) : Nat) = 3 := ⟨⟨vm_row tbX10_strokeAll 23 rfl, rfl⟩, rfl⟩
theorem dX10_strokeAll_46 : vm_at cX10_strokeAll 46 (.istore 7) 2 48 := ⟨vm_row tbX10_strokeAll 24 rfl, rfl⟩
theorem dX10_strokeAll_48 : vm_at cX10_strokeAll 48 (.aload_n 1) 1 49 ∧ ((1 : Fin 4) : Nat) = 1 := ⟨⟨vm_row tbX10_strokeAll 25 rfl, rfl⟩, rfl⟩
theorem dX10_strokeAll_49 : vm_at cX10_strokeAll 49 (.aload_n 0) 1 50 ∧ ((0 : Fin 4) : Nat) = 0 := ⟨⟨vm_row tbX10_strokeAll 26 rfl, rfl⟩, rfl⟩
theorem dX10_strokeAll_50 : vm_at cX10_strokeAll 50 (.getfield 9) 3 53 := ⟨vm_row tbX10_strokeAll 27 rfl, rfl⟩
theorem dX10_strokeAll_53 : vm_at cX10_strokeAll 53 (.iload 4) 2 55 := ⟨vm_row tbX10_strokeAll 28 rfl, rfl⟩
theorem dX10_strokeAll_55 : vm_at cX10_strokeAll 55 (.iload 6) 2 57 := ⟨vm_row tbX10_strokeAll 29 rfl, rfl⟩
theorem dX10_strokeAll_57 : vm_at cX10_strokeAll 57 (.iadd) 1 58 := ⟨vm_row tbX10_strokeAll 30 rfl, rfl⟩
theorem dX10_strokeAll_58 : vm_at cX10_strokeAll 58 (.invokestatic 46) 3 61 := ⟨vm_row tbX10_strokeAll 31 rfl, rfl⟩
theorem dX10_strokeAll_61 : vm_at cX10_strokeAll 61 (.iload 7) 2 63 := ⟨vm_row tbX10_strokeAll 32 rfl, rfl⟩
theorem dX10_strokeAll_63 : vm_at cX10_strokeAll 63 (.invokevirtual 50) 3 66 := ⟨vm_row tbX10_strokeAll 33 rfl, rfl⟩
theorem dX10_strokeAll_66 : vm_at cX10_strokeAll 66 (.istore 8) 2 68 := ⟨vm_row tbX10_strokeAll 34 rfl, rfl⟩
theorem dX10_strokeAll_68 : vm_at cX10_strokeAll 68 (.aload_n 0) 1 69 ∧ ((0 : Fin 4) : Nat) = 0 := ⟨⟨vm_row tbX10_strokeAll 35 rfl, rfl⟩, rfl⟩
theorem dX10_strokeAll_69 : vm_at cX10_strokeAll 69 (.getfield 9) 3 72 := ⟨vm_row tbX10_strokeAll 36 rfl, rfl⟩
theorem dX10_strokeAll_72 : vm_at cX10_strokeAll 72 (.iload 5) 2 74 := ⟨vm_row tbX10_strokeAll 37 rfl, rfl⟩
theorem dX10_strokeAll_74 : vm_at cX10_strokeAll 74 (.iload 6) 2 76 := ⟨vm_row tbX10_strokeAll 38 rfl, rfl⟩
theorem dX10_strokeAll_76 : vm_at cX10_strokeAll 76 (.iadd) 1 77 := ⟨vm_row tbX10_strokeAll 39 rfl, rfl⟩
theorem dX10_strokeAll_77 : vm_at cX10_strokeAll 77 (.iload 8) 2 79 := ⟨vm_row tbX10_strokeAll 40 rfl, rfl⟩
theorem dX10_strokeAll_79 : vm_at cX10_strokeAll 79 (.invokestatic 25) 3 82 := ⟨vm_row tbX10_strokeAll 41 rfl, rfl⟩
theorem dX10_strokeAll_82 : vm_at cX10_strokeAll 82 (.aload_n 0) 1 83 ∧ ((0 : Fin 4) : Nat) = 0 := ⟨⟨vm_row tbX10_strokeAll 42 rfl, rfl⟩, rfl⟩
theorem dX10_strokeAll_83 : vm_at cX10_strokeAll 83 (.getfield 15) 3 86 := ⟨vm_row tbX10_strokeAll 43 rfl, rfl⟩
theorem dX10_strokeAll_86 : vm_at cX10_strokeAll 86 (.iload 5) 2 88 := ⟨vm_row tbX10_strokeAll 44 rfl, rfl⟩
theorem dX10_strokeAll_88 : vm_at cX10_strokeAll 88 (.iload 6) 2 90 := ⟨vm_row tbX10_strokeAll 45 rfl, rfl⟩
theorem dX10_strokeAll_90 : vm_at cX10_strokeAll 90 (.iadd) 1 91 := ⟨vm_row tbX10_strokeAll 46 rfl, rfl⟩
theorem dX10_strokeAll_91 : vm_at cX10_strokeAll 91 (.aload_n 0) 1 92 ∧ ((0 : Fin 4) : Nat) = 0 := ⟨⟨vm_row tbX10_strokeAll 47 rfl, rfl⟩, rfl⟩
theorem dX10_strokeAll_92 : vm_at cX10_strokeAll 92 (.getfield 15) 3 95 := ⟨vm_row tbX10_strokeAll 48 rfl, rfl⟩
theorem dX10_strokeAll_95 : vm_at cX10_strokeAll 95 (.iload 4) 2 97 := ⟨vm_row tbX10_strokeAll 49 rfl, rfl⟩
theorem dX10_strokeAll_97 : vm_at cX10_strokeAll 97 (.iload 6) 2 99 := ⟨vm_row tbX10_strokeAll 50 rfl, rfl⟩
theorem dX10_strokeAll_99 : vm_at cX10_strokeAll 99 (.iadd) 1 100 := ⟨vm_row tbX10_strokeAll 51 rfl, rfl⟩
theorem dX10_strokeAll_100 : vm_at cX10_strokeAll 100 (.invokestatic 46) 3 103 := ⟨vm_row tbX10_strokeAll 52 rfl, rfl⟩
theorem dX10_strokeAll_103 : vm_at cX10_strokeAll 103 (.bipush 7) 2 105 ∧ (Int8.ofInt (7)).toInt32 = (7 : Int32) := ⟨⟨vm_row tbX10_strokeAll 53 rfl, rfl⟩, z_bipush_7⟩
theorem dX10_strokeAll_105 : vm_at cX10_strokeAll 105 (.ishl) 1 106 := ⟨vm_row tbX10_strokeAll 54 rfl, rfl⟩
theorem dX10_strokeAll_106 : vm_at cX10_strokeAll 106 (.iload 8) 2 108 := ⟨vm_row tbX10_strokeAll 55 rfl, rfl⟩
theorem dX10_strokeAll_108 : vm_at cX10_strokeAll 108 (.invokestatic 54) 3 111 := ⟨vm_row tbX10_strokeAll 56 rfl, rfl⟩
theorem dX10_strokeAll_111 : vm_at cX10_strokeAll 111 (.ior) 1 112 := ⟨vm_row tbX10_strokeAll 57 rfl, rfl⟩
theorem dX10_strokeAll_112 : vm_at cX10_strokeAll 112 (.invokestatic 25) 3 115 := ⟨vm_row tbX10_strokeAll 58 rfl, rfl⟩
theorem dX10_strokeAll_115 : vm_at cX10_strokeAll 115 (.iinc 6 1) 3 118 ∧ Int32.ofInt (1) = (1 : Int32) := ⟨⟨vm_row tbX10_strokeAll 59 rfl, rfl⟩, z_iconst_1⟩
theorem dX10_strokeAll_118 : vm_br cX10_strokeAll 118 (.goto (-102)) 3 121 (-102) 16 := ⟨vm_row tbX10_strokeAll 60 rfl, rfl, rfl⟩
theorem dX10_strokeAll_121 : vm_at cX10_strokeAll 121 (.return_) 1 122 := ⟨vm_row tbX10_strokeAll 61 rfl, rfl⟩
def tlX10_allDiffer : List (Nat × Instr × Nat) := [(0, .iload_n 1, 1), (1, .bipush 8, 2), (3, .imul, 1), (4, .istore_n 2, 1), (5, .iconst 0, 1), (6, .istore_n 3, 1), (7, .iload_n 3, 1), (8, .aload_n 0, 1), (9, .getfield 21, 3), (12, .if_icmp .ge 50, 3), (15, .iconst 0, 1), (16, .istore 4, 2), (18, .iload 4, 2), (20, .iload_n 3, 1), (21, .if_icmp .ge 35, 3), (24, .aload_n 0, 1), (25, .getfield 15, 3), (28, .iload_n 2, 1), (29, .iload_n 3, 1), (30, .iadd, 1), (31, .invokestatic 46, 3), (34, .aload_n 0, 1), (35, .getfield 15, 3), (38, .iload_n 2, 1), (39, .iload 4, 2), (41, .iadd, 1), (42, .invokestatic 46, 3), (45, .if_icmp .ne 5, 3), (48, .iconst 0, 1), (49, .ireturn, 1), (50, .iinc 4 1, 3), (53, .goto (-35), 3), (56, .iinc 3 1, 3), (59, .goto (-52), 3), (62, .iconst 1, 1), (63, .ireturn, 1)]
theorem tbX10_allDiffer : vm_chk cX10_allDiffer tlX10_allDiffer = true := by decide +kernel
theorem dX10_allDiffer_0 : vm_at cX10_allDiffer 0 (.iload_n 1) 1 1 ∧ ((1 : Fin 4) : Nat) = 1 := ⟨⟨vm_row tbX10_allDiffer 0 rfl, rfl⟩, rfl⟩
theorem dX10_allDiffer_1 : vm_at cX10_allDiffer 1 (.bipush 8) 2 3 ∧ (Int8.ofInt (8)).toInt32 = (8 : Int32) := ⟨⟨vm_row tbX10_allDiffer 1 rfl, rfl⟩, z_bipush_8⟩
theorem dX10_allDiffer_3 : vm_at cX10_allDiffer 3 (.imul) 1 4 := ⟨vm_row tbX10_allDiffer 2 rfl, rfl⟩
theorem dX10_allDiffer_4 : vm_at cX10_allDiffer 4 (.istore_n 2) 1 5 ∧ ((2 : Fin 4) : Nat) = 2 := ⟨⟨vm_row tbX10_allDiffer 3 rfl, rfl⟩, rfl⟩
theorem dX10_allDiffer_5 : vm_at cX10_allDiffer 5 (.iconst 0) 1 6 ∧ Int32.ofInt (0) = (0 : Int32) := ⟨⟨vm_row tbX10_allDiffer 4 rfl, rfl⟩, z_iconst_0⟩
theorem dX10_allDiffer_6 : vm_at cX10_allDiffer 6 (.istore_n 3) 1 7 ∧ ((3 : Fin 4) : Nat) = 3 := ⟨⟨vm_row tbX10_allDiffer 5 rfl, rfl⟩, rfl⟩
theorem dX10_allDiffer_7 : vm_at cX10_allDiffer 7 (.iload_n 3) 1 8 ∧ ((3 : Fin 4) : Nat) = 3 := ⟨⟨vm_row tbX10_allDiffer 6 rfl, rfl⟩, rfl⟩
theorem dX10_allDiffer_8 : vm_at cX10_allDiffer 8 (.aload_n 0) 1 9 ∧ ((0 : Fin 4) : Nat) = 0 := ⟨⟨vm_row tbX10_allDiffer 7 rfl, rfl⟩, rfl⟩
theorem dX10_allDiffer_9 : vm_at cX10_allDiffer 9 (.getfield 21) 3 12 := ⟨vm_row tbX10_allDiffer 8 rfl, rfl⟩
theorem dX10_allDiffer_12 : vm_br cX10_allDiffer 12 (.if_icmp .ge 50) 3 15 (50) 62 := ⟨vm_row tbX10_allDiffer 9 rfl, rfl, rfl⟩
theorem dX10_allDiffer_15 : vm_at cX10_allDiffer 15 (.iconst 0) 1 16 ∧ Int32.ofInt (0) = (0 : Int32) := ⟨⟨vm_row tbX10_allDiffer 10 rfl, rfl⟩, z_iconst_0⟩
theorem dX10_allDiffer_16 : vm_at cX10_allDiffer 16 (.istore 4) 2 18 := ⟨vm_row tbX10_allDiffer 11 rfl, rfl⟩
theorem dX10_allDiffer_18 : vm_at cX10_allDiffer 18 (.iload 4) 2 20 := ⟨vm_row tbX10_allDiffer 12 rfl, rfl⟩
theorem dX10_allDiffer_20 : vm_at cX10_allDiffer 20 (.iload_n 3) 1 21 ∧ ((3 : Fin 4) : Nat) = 3 := ⟨⟨vm_row tbX10_allDiffer 13 rfl, rfl⟩, rfl⟩
theorem dX10_allDiffer_21 : vm_br cX10_allDiffer 21 (.if_icmp .ge 35) 3 24 (35) 56 := ⟨vm_row tbX10_allDiffer 14 rfl, rfl, rfl⟩
theorem dX10_allDiffer_24 : vm_at cX10_allDiffer 24 (.aload_n 0) 1 25 ∧ ((0 : Fin 4) : Nat) = 0 := ⟨⟨vm_row tbX10_allDiffer 15 rfl, rfl⟩, rfl⟩
theorem dX10_allDiffer_25 : vm_at cX10_allDiffer 25 (.getfield 15) 3 28 := ⟨vm_row tbX10_allDiffer 16 rfl, rfl⟩
theorem dX10_allDiffer_28 : vm_at cX10_allDiffer 28 (.iload_n 2) 1 29 ∧ ((2 : Fin 4) : Nat) = 2 := ⟨⟨vm_row tbX10_allDiffer 17 rfl, rfl⟩, rfl⟩
theorem dX10_allDiffer_29 : vm_at cX10_allDiffer 29 (.iload_n 3) 1 30 ∧ ((3 : Fin 4) : Nat) = 3 := ⟨⟨vm_row tbX10_allDiffer 18 rfl, rfl⟩, rfl⟩
theorem dX10_allDiffer_30 : vm_at cX10_allDiffer 30 (.iadd) 1 31 := ⟨vm_row tbX10_allDiffer 19 rfl, rfl⟩
theorem dX10_allDiffer_31 : vm_at cX10_allDiffer 31 (.invokestatic 46) 3 34 := ⟨vm_row tbX10_allDiffer 20 rfl, rfl⟩
theorem dX10_allDiffer_34 : vm_at cX10_allDiffer 34 (.aload_n 0) 1 35 ∧ ((0 : Fin 4) : Nat) = 0 := ⟨⟨vm_row tbX10_allDiffer 21 rfl, rfl⟩, rfl⟩
theorem dX10_allDiffer_35 : vm_at cX10_allDiffer 35 (.getfield 15) 3 38 := ⟨vm_row tbX10_allDiffer 22 rfl, rfl⟩
theorem dX10_allDiffer_38 : vm_at cX10_allDiffer 38 (.iload_n 2) 1 39 ∧ ((2 : Fin 4) : Nat) = 2 := ⟨⟨vm_row tbX10_allDiffer 23 rfl, rfl⟩, rfl⟩
theorem dX10_allDiffer_39 : vm_at cX10_allDiffer 39 (.iload 4) 2 41 := ⟨vm_row tbX10_allDiffer 24 rfl, rfl⟩
theorem dX10_allDiffer_41 : vm_at cX10_allDiffer 41 (.iadd) 1 42 := ⟨vm_row tbX10_allDiffer 25 rfl, rfl⟩
theorem dX10_allDiffer_42 : vm_at cX10_allDiffer 42 (.invokestatic 46) 3 45 := ⟨vm_row tbX10_allDiffer 26 rfl, rfl⟩
theorem dX10_allDiffer_45 : vm_br cX10_allDiffer 45 (.if_icmp .ne 5) 3 48 (5) 50 := ⟨vm_row tbX10_allDiffer 27 rfl, rfl, rfl⟩
theorem dX10_allDiffer_48 : vm_at cX10_allDiffer 48 (.iconst 0) 1 49 ∧ Int32.ofInt (0) = (0 : Int32) := ⟨⟨vm_row tbX10_allDiffer 28 rfl, rfl⟩, z_iconst_0⟩
theorem dX10_allDiffer_49 : vm_at cX10_allDiffer 49 (.ireturn) 1 50 := ⟨vm_row tbX10_allDiffer 29 rfl, rfl⟩
theorem dX10_allDiffer_50 : vm_at cX10_allDiffer 50 (.iinc 4 1) 3 53 ∧ Int32.ofInt (1) = (1 : Int32) := ⟨⟨vm_row tbX10_allDiffer 30 rfl, rfl⟩, z_iconst_1⟩
theorem dX10_allDiffer_53 : vm_br cX10_allDiffer 53 (.goto (-35)) 3 56 (-35) 18 := ⟨vm_row tbX10_allDiffer 31 rfl, rfl, rfl⟩
theorem dX10_allDiffer_56 : vm_at cX10_allDiffer 56 (.iinc 3 1) 3 59 ∧ Int32.ofInt (1) = (1 : Int32) := ⟨⟨vm_row tbX10_allDiffer 32 rfl, rfl⟩, z_iconst_1⟩
theorem dX10_allDiffer_59 : vm_br cX10_allDiffer 59 (.goto (-52)) 3 62 (-52) 7 := ⟨vm_row tbX10_allDiffer 33 rfl, rfl, rfl⟩
theorem dX10_allDiffer_62 : vm_at cX10_allDiffer 62 (.iconst 1) 1 63 ∧ Int32.ofInt (1) = (1 : Int32) := ⟨⟨vm_row tbX10_allDiffer 34 rfl, rfl⟩, z_iconst_1⟩
theorem dX10_allDiffer_63 : vm_at cX10_allDiffer 63 (.ireturn) 1 64 := ⟨vm_row tbX10_allDiffer 35 rfl, rfl⟩
def tlX11_feed : List (Nat × Instr × Nat) := [(0, .iload_n 1, 1), (1, .iconst 1, 1), (2, .if_icmp .lt 9, 3), (5, .iload_n 1, 1), (6, .bipush 8, 2), (8, .if_icmp .le 6, 3), (11, .ldc 97, 2), (13, .ireturn, 1), (14, .aload_n 0, 1), (15, .getfield 12, 3), (18, .getfield 98, 3), (21, .iload_n 1, 1), (22, .iadd, 1), (23, .sipush 400, 3), (26, .if_icmp .le 6, 3), (29, .ldc 102, 2), (31, .ireturn, 1), (32, .iload_n 1, 1), (33, .iconst 1, 1), (34, .isub, 1), (35, .istore 4, 2), (37, .iload 4, 2), (39, .ifCond .lt 28, 3), (42, .aload_n 0, 1), (43, .getfield 12, 3), (46, .lload_n 2, 1), (47, .bipush 8, 2), (49, .iload 4, 2), (51, .imul, 1), (52, .lushr, 1), (53, .l2i, 1), (54, .sipush 255, 3), (57, .iand, 1), (58, .invokevirtual 103, 3), (61, .iinc 4 (-1), 3), (64, .goto (-27), 3), (67, .aload_n 0, 1), (68, .getfield 12, 3), (71, .getfield 98, 3), (74, .ireturn, 1)]
theorem tbX11_feed : vm_chk cX11_feed tlX11_feed = true := by decide +kernel
theorem dX11_feed_0 : vm_at cX11_feed 0 (.iload_n 1) 1 1 ∧ ((1 : Fin 4) : Nat) = 1 := ⟨⟨vm_row tbX11_feed 0 rfl, rfl⟩, rfl⟩
theorem dX11_feed_1 : vm_at cX11_feed 1 (.iconst 1) 1 2 ∧ Int32.ofInt (1) = (1 : Int32) := ⟨⟨vm_row tbX11_feed 1 rfl, rfl⟩, z_iconst_1⟩
theorem dX11_feed_2 : vm_br cX11_feed 2 (.if_icmp .lt 9) 3 5 (9) 11 := ⟨vm_row tbX11_feed 2 rfl, rfl, rfl⟩
theorem dX11_feed_5 : vm_at cX11_feed 5 (.iload_n 1) 1 6 ∧ ((1 : Fin 4) : Nat) = 1 := ⟨⟨vm_row tbX11_feed 3 rfl, rfl⟩, rfl⟩
theorem dX11_feed_6 : vm_at cX11_feed 6 (.bipush 8) 2 8 ∧ (Int8.ofInt (8)).toInt32 = (8 : Int32) := ⟨⟨vm_row tbX11_feed 4 rfl, rfl⟩, z_bipush_8⟩
theorem dX11_feed_8 : vm_br cX11_feed 8 (.if_icmp .le 6) 3 11 (6) 14 := ⟨vm_row tbX11_feed 5 rfl, rfl, rfl⟩
theorem dX11_feed_11 : vm_at cX11_feed 11 (.ldc 97) 2 13 := ⟨vm_row tbX11_feed 6 rfl, rfl⟩
theorem dX11_feed_13 : vm_at cX11_feed 13 (.ireturn) 1 14 := ⟨vm_row tbX11_feed 7 rfl, rfl⟩
theorem dX11_feed_14 : vm_at cX11_feed 14 (.aload_n 0) 1 15 ∧ ((0 : Fin 4) : Nat) = 0 := ⟨⟨vm_row tbX11_feed 8 rfl, rfl⟩, rfl⟩
theorem dX11_feed_15 : vm_at cX11_feed 15 (.getfield 12) 3 18 := ⟨vm_row tbX11_feed 9 rfl, rfl⟩
theorem dX11_feed_18 : vm_at cX11_feed 18 (.getfield 98) 3 21 := ⟨vm_row tbX11_feed 10 rfl, rfl⟩
theorem dX11_feed_21 : vm_at cX11_feed 21 (.iload_n 1) 1 22 ∧ ((1 : Fin 4) : Nat) = 1 := ⟨⟨vm_row tbX11_feed 11 rfl, rfl⟩, rfl⟩
theorem dX11_feed_22 : vm_at cX11_feed 22 (.iadd) 1 23 := ⟨vm_row tbX11_feed 12 rfl, rfl⟩
theorem dX11_feed_23 : vm_at cX11_feed 23 (.sipush 400) 3 26 ∧ (Int16.ofInt (400)).toInt32 = (400 : Int32) := ⟨⟨vm_row tbX11_feed 13 rfl, rfl⟩, z_sipush_400⟩
theorem dX11_feed_26 : vm_br cX11_feed 26 (.if_icmp .le 6) 3 29 (6) 32 := ⟨vm_row tbX11_feed 14 rfl, rfl, rfl⟩
theorem dX11_feed_29 : vm_at cX11_feed 29 (.ldc 102) 2 31 := ⟨vm_row tbX11_feed 15 rfl, rfl⟩
theorem dX11_feed_31 : vm_at cX11_feed 31 (.ireturn) 1 32 := ⟨vm_row tbX11_feed 16 rfl, rfl⟩
theorem dX11_feed_32 : vm_at cX11_feed 32 (.iload_n 1) 1 33 ∧ ((1 : Fin 4) : Nat) = 1 := ⟨⟨vm_row tbX11_feed 17 rfl, rfl⟩, rfl⟩
theorem dX11_feed_33 : vm_at cX11_feed 33 (.iconst 1) 1 34 ∧ Int32.ofInt (1) = (1 : Int32) := ⟨⟨vm_row tbX11_feed 18 rfl, rfl⟩, z_iconst_1⟩
theorem dX11_feed_34 : vm_at cX11_feed 34 (.isub) 1 35 := ⟨vm_row tbX11_feed 19 rfl, rfl⟩
theorem dX11_feed_35 : vm_at cX11_feed 35 (.istore 4) 2 37 := ⟨vm_row tbX11_feed 20 rfl, rfl⟩
theorem dX11_feed_37 : vm_at cX11_feed 37 (.iload 4) 2 39 := ⟨vm_row tbX11_feed 21 rfl, rfl⟩
theorem dX11_feed_39 : vm_br cX11_feed 39 (.ifCond .lt 28) 3 42 (28) 67 := ⟨vm_row tbX11_feed 22 rfl, rfl, rfl⟩
theorem dX11_feed_42 : vm_at cX11_feed 42 (.aload_n 0) 1 43 ∧ ((0 : Fin 4) : Nat) = 0 := ⟨⟨vm_row tbX11_feed 23 rfl, rfl⟩, rfl⟩
theorem dX11_feed_43 : vm_at cX11_feed 43 (.getfield 12) 3 46 := ⟨vm_row tbX11_feed 24 rfl, rfl⟩
theorem dX11_feed_46 : vm_at cX11_feed 46 (.lload_n 2) 1 47 ∧ ((2 : Fin 4) : Nat) = 2 := ⟨⟨vm_row tbX11_feed 25 rfl, rfl⟩, rfl⟩
theorem dX11_feed_47 : vm_at cX11_feed 47 (.bipush 8) 2 49 ∧ (Int8.ofInt (8)).toInt32 = (8 : Int32) := ⟨⟨vm_row tbX11_feed 26 rfl, rfl⟩, z_bipush_8⟩
theorem dX11_feed_49 : vm_at cX11_feed 49 (.iload 4) 2 51 := ⟨vm_row tbX11_feed 27 rfl, rfl⟩
theorem dX11_feed_51 : vm_at cX11_feed 51 (.imul) 1 52 := ⟨vm_row tbX11_feed 28 rfl, rfl⟩
theorem dX11_feed_52 : vm_at cX11_feed 52 (.lushr) 1 53 := ⟨vm_row tbX11_feed 29 rfl, rfl⟩
theorem dX11_feed_53 : vm_at cX11_feed 53 (.l2i) 1 54 := ⟨vm_row tbX11_feed 30 rfl, rfl⟩
theorem dX11_feed_54 : vm_at cX11_feed 54 (.sipush 255) 3 57 ∧ (Int16.ofInt (255)).toInt32 = (255 : Int32) := ⟨⟨vm_row tbX11_feed 31 rfl, rfl⟩, z_sipush_255⟩
theorem dX11_feed_57 : vm_at cX11_feed 57 (.iand) 1 58 := ⟨vm_row tbX11_feed 32 rfl, rfl⟩
theorem dX11_feed_58 : vm_at cX11_feed 58 (.invokevirtual 103) 3 61 := ⟨vm_row tbX11_feed 33 rfl, rfl⟩
theorem dX11_feed_61 : vm_at cX11_feed 61 (.iinc 4 (-1)) 3 64 ∧ Int32.ofInt (-1) = (-1 : Int32) := ⟨⟨vm_row tbX11_feed 34 rfl, rfl⟩, z_iconst_m1⟩
theorem dX11_feed_64 : vm_br cX11_feed 64 (.goto (-27)) 3 67 (-27) 37 := ⟨vm_row tbX11_feed 35 rfl, rfl, rfl⟩
theorem dX11_feed_67 : vm_at cX11_feed 67 (.aload_n 0) 1 68 ∧ ((0 : Fin 4) : Nat) = 0 := ⟨⟨vm_row tbX11_feed 36 rfl, rfl⟩, rfl⟩
theorem dX11_feed_68 : vm_at cX11_feed 68 (.getfield 12) 3 71 := ⟨vm_row tbX11_feed 37 rfl, rfl⟩
theorem dX11_feed_71 : vm_at cX11_feed 71 (.getfield 98) 3 74 := ⟨vm_row tbX11_feed 38 rfl, rfl⟩
theorem dX11_feed_74 : vm_at cX11_feed 74 (.ireturn) 1 75 := ⟨vm_row tbX11_feed 39 rfl, rfl⟩
def tlX11_reckoner : List (Nat × Instr × Nat) := [(0, .aload_n 0, 1), (1, .getfield 12, 3), (4, .aload_n 0, 1), (5, .getfield 23, 3), (8, .invokevirtual 107, 3), (11, .istore_n 1, 1), (12, .aload_n 0, 1), (13, .getfield 12, 3), (16, .iconst 0, 1), (17, .putfield 98, 3), (20, .iload_n 1, 1), (21, .ifCond .ne 14, 3), (24, .bipush (-10), 2), (26, .aload_n 0, 1), (27, .getfield 12, 3), (30, .getfield 111, 3), (33, .isub, 1), (34, .ireturn, 1), (35, .aload_n 0, 1), (36, .getfield 19, 3), (39, .astore_n 2, 1), (40, .aload_n 0, 1), (41, .aload_n 0, 1), (42, .getfield 23, 3), (45, .putfield 19, 3), (48, .aload_n 0, 1), (49, .aload_n 2, 1), (50, .putfield 23, 3), (53, .aload_n 0, 1), (54, .getfield 29, 3), (57, .iconst 0, 1), (58, .putfield 114, 3), (61, .aload_n 0, 1), (62, .getfield 29, 3), (65, .iconst 0, 1), (66, .putfield 117, 3), (69, .aload_n 0, 1), (70, .getfield 29, 3), (73, .iconst 0, 1), (74, .putfield 120, 3), (77, .aload_n 0, 1), (78, .getfield 42, 3), (81, .iconst 0, 1), (82, .putfield 123, 3), (85, .aload_n 0, 1), (86, .getfield 33, 3), (89, .iconst 0, 1), (90, .putfield 124, 3), (93, .aload_n 0, 1), (94, .getfield 36, 3), (97, .iconst 0, 1), (98, .putfield 124, 3), (101, .aload_n 0, 1), (102, .invokevirtual 128, 3), (105, .aload_n 0, 1), (106, .getfield 19, 3), (109, .getfield 131, 3), (112, .ireturn, 1)]
theorem tbX11_reckoner : vm_chk cX11_reckoner tlX11_reckoner = true := by decide +kernel
theorem dX11_reckoner_0 : vm_at cX11_reckoner 0 (.aload_n 0) 1 1 ∧ ((0 : Fin 4) : Nat) = 0 := ⟨⟨vm_row tbX11_reckoner 0 rfl, rfl⟩, rfl⟩
theorem dX11_reckoner_1 : vm_at cX11_reckoner 1 (.getfield 12) 3 4 := ⟨vm_row tbX11_reckoner 1 rfl, rfl⟩
theorem dX11_reckoner_4 : vm_at cX11_reckoner 4 (.aload_n 0) 1 5 ∧ ((0 : Fin 4) : Nat) = 0 := ⟨⟨vm_row tbX11_reckoner 2 rfl, rfl⟩, rfl⟩
theorem dX11_reckoner_5 : vm_at cX11_reckoner 5 (.getfield 23) 3 8 := ⟨vm_row tbX11_reckoner 3 rfl, rfl⟩
theorem dX11_reckoner_8 : vm_at cX11_reckoner 8 (.invokevirtual 107) 3 11 := ⟨vm_row tbX11_reckoner 4 rfl, rfl⟩
theorem dX11_reckoner_11 : vm_at cX11_reckoner 11 (.istore_n 1) 1 12 ∧ ((1 : Fin 4) : Nat) = 1 := ⟨⟨vm_row tbX11_reckoner 5 rfl, rfl⟩, rfl⟩
theorem dX11_reckoner_12 : vm_at cX11_reckoner 12 (.aload_n 0) 1 13 ∧ ((0 : Fin 4) : Nat) = 0 := ⟨⟨vm_row tbX11_reckoner 6 rfl, rfl⟩, rfl⟩
theorem dX11_reckoner_13 : vm_at cX11_reckoner 13 (.getfield 12) 3 16 := ⟨vm_row tbX11_reckoner 7 rfl, rfl⟩
theorem dX11_reckoner_16 : vm_at cX11_reckoner 16 (.iconst 0) 1 17 ∧ Int32.ofInt (0) = (0 : Int32) := ⟨⟨vm_row tbX11_reckoner 8 rfl, rfl⟩, z_iconst_0⟩
theorem dX11_reckoner_17 : vm_at cX11_reckoner 17 (.putfield 98) 3 20 := ⟨vm_row tbX11_reckoner 9 rfl, rfl⟩
theorem dX11_reckoner_20 : vm_at cX11_reckoner 20 (.iload_n 1) 1 21 ∧ ((1 : Fin 4) : Nat) = 1 := ⟨⟨vm_row tbX11_reckoner 10 rfl, rfl⟩, rfl⟩
theorem dX11_reckoner_21 : vm_br cX11_reckoner 21 (.ifCond .ne 14) 3 24 (14) 35 := ⟨vm_row tbX11_reckoner 11 rfl, rfl, rfl⟩
theorem dX11_reckoner_24 : vm_at cX11_reckoner 24 (.bipush (-10)) 2 26 ∧ (Int8.ofInt (-10)).toInt32 = (-10 : Int32) := ⟨⟨vm_row tbX11_reckoner 12 rfl, rfl⟩, z_bipush_m10⟩
theorem dX11_reckoner_26 : vm_at cX11_reckoner 26 (.aload_n 0) 1 27 ∧ ((0 : Fin 4) : Nat) = 0 := ⟨⟨vm_row tbX11_reckoner 13 rfl, rfl⟩, rfl⟩
theorem dX11_reckoner_27 : vm_at cX11_reckoner 27 (.getfield 12) 3 30 := ⟨vm_row tbX11_reckoner 14 rfl, rfl⟩
theorem dX11_reckoner_30 : vm_at cX11_reckoner 30 (.getfield 111) 3 33 := ⟨vm_row tbX11_reckoner 15 rfl, rfl⟩
theorem dX11_reckoner_33 : vm_at cX11_reckoner 33 (.isub) 1 34 := ⟨vm_row tbX11_reckoner 16 rfl, rfl⟩
theorem dX11_reckoner_34 : vm_at cX11_reckoner 34 (.ireturn) 1 35 := ⟨vm_row tbX11_reckoner 17 rfl, rfl⟩
theorem dX11_reckoner_35 : vm_at cX11_reckoner 35 (.aload_n 0) 1 36 ∧ ((0 : Fin 4) : Nat) = 0 := ⟨⟨vm_row tbX11_reckoner 18 rfl, rfl⟩, rfl⟩
theorem dX11_reckoner_36 : vm_at cX11_reckoner 36 (.getfield 19) 3 39 := ⟨vm_row tbX11_reckoner 19 rfl, rfl⟩
theorem dX11_reckoner_39 : vm_at cX11_reckoner 39 (.astore_n 2) 1 40 ∧ ((2 : Fin 4) : Nat) = 2 := ⟨⟨vm_row tbX11_reckoner 20 rfl, rfl⟩, rfl⟩
theorem dX11_reckoner_40 : vm_at cX11_reckoner 40 (.aload_n 0) 1 41 ∧ ((0 : Fin 4) : Nat) = 0 := ⟨⟨vm_row tbX11_reckoner 21 rfl, rfl⟩, rfl⟩
theorem dX11_reckoner_41 : vm_at cX11_reckoner 41 (.aload_n 0) 1 42 ∧ ((0 : Fin 4) : Nat) = 0 := ⟨⟨vm_row tbX11_reckoner 22 rfl, rfl⟩, rfl⟩
theorem dX11_reckoner_42 : vm_at cX11_reckoner 42 (.getfield 23) 3 45 := ⟨vm_row tbX11_reckoner 23 rfl, rfl⟩
theorem dX11_reckoner_45 : vm_at cX11_reckoner 45 (.putfield 19) 3 48 := ⟨vm_row tbX11_reckoner 24 rfl, rfl⟩
theorem dX11_reckoner_48 : vm_at cX11_reckoner 48 (.aload_n 0) 1 49 ∧ ((0 : Fin 4) : Nat) = 0 := ⟨⟨vm_row tbX11_reckoner 25 rfl, rfl⟩, rfl⟩
theorem dX11_reckoner_49 : vm_at cX11_reckoner 49 (.aload_n 2) 1 50 ∧ ((2 : Fin 4) : Nat) = 2 := ⟨⟨vm_row tbX11_reckoner 26 rfl, rfl⟩, rfl⟩
theorem dX11_reckoner_50 : vm_at cX11_reckoner 50 (.putfield 23) 3 53 := ⟨vm_row tbX11_reckoner 27 rfl, rfl⟩
theorem dX11_reckoner_53 : vm_at cX11_reckoner 53 (.aload_n 0) 1 54 ∧ ((0 : Fin 4) : Nat) = 0 := ⟨⟨vm_row tbX11_reckoner 28 rfl, rfl⟩, rfl⟩
theorem dX11_reckoner_54 : vm_at cX11_reckoner 54 (.getfield 29) 3 57 := ⟨vm_row tbX11_reckoner 29 rfl, rfl⟩
theorem dX11_reckoner_57 : vm_at cX11_reckoner 57 (.iconst 0) 1 58 ∧ Int32.ofInt (0) = (0 : Int32) := ⟨⟨vm_row tbX11_reckoner 30 rfl, rfl⟩, z_iconst_0⟩
theorem dX11_reckoner_58 : vm_at cX11_reckoner 58 (.putfield 114) 3 61 := ⟨vm_row tbX11_reckoner 31 rfl, rfl⟩
theorem dX11_reckoner_61 : vm_at cX11_reckoner 61 (.aload_n 0) 1 62 ∧ ((0 : Fin 4) : Nat) = 0 := ⟨⟨vm_row tbX11_reckoner 32 rfl, rfl⟩, rfl⟩
theorem dX11_reckoner_62 : vm_at cX11_reckoner 62 (.getfield 29) 3 65 := ⟨vm_row tbX11_reckoner 33 rfl, rfl⟩
theorem dX11_reckoner_65 : vm_at cX11_reckoner 65 (.iconst 0) 1 66 ∧ Int32.ofInt (0) = (0 : Int32) := ⟨⟨vm_row tbX11_reckoner 34 rfl, rfl⟩, z_iconst_0⟩
theorem dX11_reckoner_66 : vm_at cX11_reckoner 66 (.putfield 117) 3 69 := ⟨vm_row tbX11_reckoner 35 rfl, rfl⟩
theorem dX11_reckoner_69 : vm_at cX11_reckoner 69 (.aload_n 0) 1 70 ∧ ((0 : Fin 4) : Nat) = 0 := ⟨⟨vm_row tbX11_reckoner 36 rfl, rfl⟩, rfl⟩
theorem dX11_reckoner_70 : vm_at cX11_reckoner 70 (.getfield 29) 3 73 := ⟨vm_row tbX11_reckoner 37 rfl, rfl⟩
theorem dX11_reckoner_73 : vm_at cX11_reckoner 73 (.iconst 0) 1 74 ∧ Int32.ofInt (0) = (0 : Int32) := ⟨⟨vm_row tbX11_reckoner 38 rfl, rfl⟩, z_iconst_0⟩
theorem dX11_reckoner_74 : vm_at cX11_reckoner 74 (.putfield 120) 3 77 := ⟨vm_row tbX11_reckoner 39 rfl, rfl⟩
theorem dX11_reckoner_77 : vm_at cX11_reckoner 77 (.aload_n 0) 1 78 ∧ ((0 : Fin 4) : Nat) = 0 := ⟨⟨vm_row tbX11_reckoner 40 rfl, rfl⟩, rfl⟩
theorem dX11_reckoner_78 : vm_at cX11_reckoner 78 (.getfield 42) 3 81 := ⟨vm_row tbX11_reckoner 41 rfl, rfl⟩
theorem dX11_reckoner_81 : vm_at cX11_reckoner 81 (.iconst 0) 1 82 ∧ Int32.ofInt (0) = (0 : Int32) := ⟨⟨vm_row tbX11_reckoner 42 rfl, rfl⟩, z_iconst_0⟩
theorem dX11_reckoner_82 : vm_at cX11_reckoner 82 (.putfield 123) 3 85 := ⟨vm_row tbX11_reckoner 43 rfl, rfl⟩
theorem dX11_reckoner_85 : vm_at cX11_reckoner 85 (.aload_n 0) 1 86 ∧ ((0 : Fin 4) : Nat) = 0 := ⟨⟨vm_row tbX11_reckoner 44 rfl, rfl⟩, rfl⟩
theorem dX11_reckoner_86 : vm_at cX11_reckoner 86 (.getfield 33) 3 89 := ⟨vm_row tbX11_reckoner 45 rfl, rfl⟩
theorem dX11_reckoner_89 : vm_at cX11_reckoner 89 (.iconst 0) 1 90 ∧ Int32.ofInt (0) = (0 : Int32) := ⟨⟨vm_row tbX11_reckoner 46 rfl, rfl⟩, z_iconst_0⟩
theorem dX11_reckoner_90 : vm_at cX11_reckoner 90 (.putfield 124) 3 93 := ⟨vm_row tbX11_reckoner 47 rfl, rfl⟩
theorem dX11_reckoner_93 : vm_at cX11_reckoner 93 (.aload_n 0) 1 94 ∧ ((0 : Fin 4) : Nat) = 0 := ⟨⟨vm_row tbX11_reckoner 48 rfl, rfl⟩, rfl⟩
theorem dX11_reckoner_94 : vm_at cX11_reckoner 94 (.getfield 36) 3 97 := ⟨vm_row tbX11_reckoner 49 rfl, rfl⟩
theorem dX11_reckoner_97 : vm_at cX11_reckoner 97 (.iconst 0) 1 98 ∧ Int32.ofInt (0) = (0 : Int32) := ⟨⟨vm_row tbX11_reckoner 50 rfl, rfl⟩, z_iconst_0⟩
theorem dX11_reckoner_98 : vm_at cX11_reckoner 98 (.putfield 124) 3 101 := ⟨vm_row tbX11_reckoner 51 rfl, rfl⟩
theorem dX11_reckoner_101 : vm_at cX11_reckoner 101 (.aload_n 0) 1 102 ∧ ((0 : Fin 4) : Nat) = 0 := ⟨⟨vm_row tbX11_reckoner 52 rfl, rfl⟩, rfl⟩
theorem dX11_reckoner_102 : vm_at cX11_reckoner 102 (.invokevirtual 128) 3 105 := ⟨vm_row tbX11_reckoner 53 rfl, rfl⟩
theorem dX11_reckoner_105 : vm_at cX11_reckoner 105 (.aload_n 0) 1 106 ∧ ((0 : Fin 4) : Nat) = 0 := ⟨⟨vm_row tbX11_reckoner 54 rfl, rfl⟩, rfl⟩
theorem dX11_reckoner_106 : vm_at cX11_reckoner 106 (.getfield 19) 3 109 := ⟨vm_row tbX11_reckoner 55 rfl, rfl⟩
theorem dX11_reckoner_109 : vm_at cX11_reckoner 109 (.getfield 131) 3 112 := ⟨vm_row tbX11_reckoner 56 rfl, rfl⟩
theorem dX11_reckoner_112 : vm_at cX11_reckoner 112 (.ireturn) 1 113 := ⟨vm_row tbX11_reckoner 57 rfl, rfl⟩
def tlX11_fault : List (Nat × Instr × Nat) := [(0, .aload_n 0, 1), (1, .getfield 12, 3), (4, .getfield 134, 3), (7, .ireturn, 1)]
theorem tbX11_fault : vm_chk cX11_fault tlX11_fault = true := by decide +kernel
theorem dX11_fault_0 : vm_at cX11_fault 0 (.aload_n 0) 1 1 ∧ ((0 : Fin 4) : Nat) = 0 := ⟨⟨vm_row tbX11_fault 0 rfl, rfl⟩, rfl⟩
theorem dX11_fault_1 : vm_at cX11_fault 1 (.getfield 12) 3 4 := ⟨vm_row tbX11_fault 1 rfl, rfl⟩
theorem dX11_fault_4 : vm_at cX11_fault 4 (.getfield 134) 3 7 := ⟨vm_row tbX11_fault 2 rfl, rfl⟩
theorem dX11_fault_7 : vm_at cX11_fault 7 (.ireturn) 1 8 := ⟨vm_row tbX11_fault 3 rfl, rfl⟩
def tlX11_told : List (Nat × Instr × Nat) := [(0, .iload_n 1, 1), (1, .tableswitch 191 0 12 #[67, 75, 83, 91, 99, 107, 115, 126, 137, 148, 167, 175, 183], 67), (68, .aload_n 0, 1), (69, .getfield 19, 3), (72, .getfield 137, 3), (75, .ireturn, 1), (76, .aload_n 0, 1), (77, .getfield 19, 3), (80, .getfield 140, 3), (83, .ireturn, 1), (84, .aload_n 0, 1), (85, .getfield 19, 3), (88, .getfield 143, 3), (91, .ireturn, 1), (92, .aload_n 0, 1), (93, .getfield 19, 3), (96, .getfield 131, 3), (99, .ireturn, 1), (100, .aload_n 0, 1), (101, .getfield 19, 3), (104, .getfield 146, 3), (107, .ireturn, 1), (108, .aload_n 0, 1), (109, .getfield 12, 3), (112, .getfield 98, 3), (115, .ireturn, 1), (116, .aload_n 0, 1), (117, .getfield 29, 3), (120, .getfield 114, 3), (123, .invokestatic 149, 3), (126, .ireturn, 1), (127, .aload_n 0, 1), (128, .getfield 29, 3), (131, .getfield 114, 3), (134, .invokestatic 153, 3), (137, .ireturn, 1), (138, .aload_n 0, 1), (139, .getfield 29, 3), (142, .getfield 114, 3), (145, .invokestatic 156, 3), (148, .ireturn, 1), (149, .aload_n 0, 1), (150, .getfield 29, 3), (153, .getfield 114, 3), (156, .invokestatic 159, 3), (159, .ifCond .eq 7, 3), (162, .iconst 1, 1), (163, .goto 4, 3), (166, .iconst 0, 1), (167, .ireturn, 1), (168, .aload_n 0, 1), (169, .getfield 29, 3), (172, .getfield 117, 3), (175, .ireturn, 1), (176, .aload_n 0, 1), (177, .getfield 29, 3), (180, .getfield 120, 3), (183, .ireturn, 1), (184, .aload_n 0, 1), (185, .getfield 42, 3), (188, .getfield 123, 3), (191, .ireturn, 1), (192, .ldc 97, 2), (194, .ireturn, 1)]
theorem tbX11_told : vm_chk cX11_told tlX11_told = true := by decide +kernel
theorem dX11_told_0 : vm_at cX11_told 0 (.iload_n 1) 1 1 ∧ ((1 : Fin 4) : Nat) = 1 := ⟨⟨vm_row tbX11_told 0 rfl, rfl⟩, rfl⟩
theorem dX11_told_1 : decode cX11_told 1 = .ok (.tableswitch 191 0 12 #[67, 75, 83, 91, 99, 107, 115, 126, 137, 148, 167, 175, 183], 67) := vm_row tbX11_told 1 rfl
theorem dX11_told_68 : vm_at cX11_told 68 (.aload_n 0) 1 69 ∧ ((0 : Fin 4) : Nat) = 0 := ⟨⟨vm_row tbX11_told 2 rfl, rfl⟩, rfl⟩
theorem dX11_told_69 : vm_at cX11_told 69 (.getfield 19) 3 72 := ⟨vm_row tbX11_told 3 rfl, rfl⟩
theorem dX11_told_72 : vm_at cX11_told 72 (.getfield 137) 3 75 := ⟨vm_row tbX11_told 4 rfl, rfl⟩
theorem dX11_told_75 : vm_at cX11_told 75 (.ireturn) 1 76 := ⟨vm_row tbX11_told 5 rfl, rfl⟩
theorem dX11_told_76 : vm_at cX11_told 76 (.aload_n 0) 1 77 ∧ ((0 : Fin 4) : Nat) = 0 := ⟨⟨vm_row tbX11_told 6 rfl, rfl⟩, rfl⟩
theorem dX11_told_77 : vm_at cX11_told 77 (.getfield 19) 3 80 := ⟨vm_row tbX11_told 7 rfl, rfl⟩
theorem dX11_told_80 : vm_at cX11_told 80 (.getfield 140) 3 83 := ⟨vm_row tbX11_told 8 rfl, rfl⟩
theorem dX11_told_83 : vm_at cX11_told 83 (.ireturn) 1 84 := ⟨vm_row tbX11_told 9 rfl, rfl⟩
theorem dX11_told_84 : vm_at cX11_told 84 (.aload_n 0) 1 85 ∧ ((0 : Fin 4) : Nat) = 0 := ⟨⟨vm_row tbX11_told 10 rfl, rfl⟩, rfl⟩
theorem dX11_told_85 : vm_at cX11_told 85 (.getfield 19) 3 88 := ⟨vm_row tbX11_told 11 rfl, rfl⟩
theorem dX11_told_88 : vm_at cX11_told 88 (.getfield 143) 3 91 := ⟨vm_row tbX11_told 12 rfl, rfl⟩
theorem dX11_told_91 : vm_at cX11_told 91 (.ireturn) 1 92 := ⟨vm_row tbX11_told 13 rfl, rfl⟩
theorem dX11_told_92 : vm_at cX11_told 92 (.aload_n 0) 1 93 ∧ ((0 : Fin 4) : Nat) = 0 := ⟨⟨vm_row tbX11_told 14 rfl, rfl⟩, rfl⟩
theorem dX11_told_93 : vm_at cX11_told 93 (.getfield 19) 3 96 := ⟨vm_row tbX11_told 15 rfl, rfl⟩
theorem dX11_told_96 : vm_at cX11_told 96 (.getfield 131) 3 99 := ⟨vm_row tbX11_told 16 rfl, rfl⟩
theorem dX11_told_99 : vm_at cX11_told 99 (.ireturn) 1 100 := ⟨vm_row tbX11_told 17 rfl, rfl⟩
theorem dX11_told_100 : vm_at cX11_told 100 (.aload_n 0) 1 101 ∧ ((0 : Fin 4) : Nat) = 0 := ⟨⟨vm_row tbX11_told 18 rfl, rfl⟩, rfl⟩
theorem dX11_told_101 : vm_at cX11_told 101 (.getfield 19) 3 104 := ⟨vm_row tbX11_told 19 rfl, rfl⟩
theorem dX11_told_104 : vm_at cX11_told 104 (.getfield 146) 3 107 := ⟨vm_row tbX11_told 20 rfl, rfl⟩
theorem dX11_told_107 : vm_at cX11_told 107 (.ireturn) 1 108 := ⟨vm_row tbX11_told 21 rfl, rfl⟩
theorem dX11_told_108 : vm_at cX11_told 108 (.aload_n 0) 1 109 ∧ ((0 : Fin 4) : Nat) = 0 := ⟨⟨vm_row tbX11_told 22 rfl, rfl⟩, rfl⟩
theorem dX11_told_109 : vm_at cX11_told 109 (.getfield 12) 3 112 := ⟨vm_row tbX11_told 23 rfl, rfl⟩
theorem dX11_told_112 : vm_at cX11_told 112 (.getfield 98) 3 115 := ⟨vm_row tbX11_told 24 rfl, rfl⟩
theorem dX11_told_115 : vm_at cX11_told 115 (.ireturn) 1 116 := ⟨vm_row tbX11_told 25 rfl, rfl⟩
theorem dX11_told_116 : vm_at cX11_told 116 (.aload_n 0) 1 117 ∧ ((0 : Fin 4) : Nat) = 0 := ⟨⟨vm_row tbX11_told 26 rfl, rfl⟩, rfl⟩
theorem dX11_told_117 : vm_at cX11_told 117 (.getfield 29) 3 120 := ⟨vm_row tbX11_told 27 rfl, rfl⟩
theorem dX11_told_120 : vm_at cX11_told 120 (.getfield 114) 3 123 := ⟨vm_row tbX11_told 28 rfl, rfl⟩
theorem dX11_told_123 : vm_at cX11_told 123 (.invokestatic 149) 3 126 := ⟨vm_row tbX11_told 29 rfl, rfl⟩
theorem dX11_told_126 : vm_at cX11_told 126 (.ireturn) 1 127 := ⟨vm_row tbX11_told 30 rfl, rfl⟩
theorem dX11_told_127 : vm_at cX11_told 127 (.aload_n 0) 1 128 ∧ ((0 : Fin 4) : Nat) = 0 := ⟨⟨vm_row tbX11_told 31 rfl, rfl⟩, rfl⟩
theorem dX11_told_128 : vm_at cX11_told 128 (.getfield 29) 3 131 := ⟨vm_row tbX11_told 32 rfl, rfl⟩
theorem dX11_told_131 : vm_at cX11_told 131 (.getfield 114) 3 134 := ⟨vm_row tbX11_told 33 rfl, rfl⟩
theorem dX11_told_134 : vm_at cX11_told 134 (.invokestatic 153) 3 137 := ⟨vm_row tbX11_told 34 rfl, rfl⟩
theorem dX11_told_137 : vm_at cX11_told 137 (.ireturn) 1 138 := ⟨vm_row tbX11_told 35 rfl, rfl⟩
theorem dX11_told_138 : vm_at cX11_told 138 (.aload_n 0) 1 139 ∧ ((0 : Fin 4) : Nat) = 0 := ⟨⟨vm_row tbX11_told 36 rfl, rfl⟩, rfl⟩
theorem dX11_told_139 : vm_at cX11_told 139 (.getfield 29) 3 142 := ⟨vm_row tbX11_told 37 rfl, rfl⟩
theorem dX11_told_142 : vm_at cX11_told 142 (.getfield 114) 3 145 := ⟨vm_row tbX11_told 38 rfl, rfl⟩
theorem dX11_told_145 : vm_at cX11_told 145 (.invokestatic 156) 3 148 := ⟨vm_row tbX11_told 39 rfl, rfl⟩
theorem dX11_told_148 : vm_at cX11_told 148 (.ireturn) 1 149 := ⟨vm_row tbX11_told 40 rfl, rfl⟩
theorem dX11_told_149 : vm_at cX11_told 149 (.aload_n 0) 1 150 ∧ ((0 : Fin 4) : Nat) = 0 := ⟨⟨vm_row tbX11_told 41 rfl, rfl⟩, rfl⟩
theorem dX11_told_150 : vm_at cX11_told 150 (.getfield 29) 3 153 := ⟨vm_row tbX11_told 42 rfl, rfl⟩
theorem dX11_told_153 : vm_at cX11_told 153 (.getfield 114) 3 156 := ⟨vm_row tbX11_told 43 rfl, rfl⟩
theorem dX11_told_156 : vm_at cX11_told 156 (.invokestatic 159) 3 159 := ⟨vm_row tbX11_told 44 rfl, rfl⟩
theorem dX11_told_159 : vm_br cX11_told 159 (.ifCond .eq 7) 3 162 (7) 166 := ⟨vm_row tbX11_told 45 rfl, rfl, rfl⟩
theorem dX11_told_162 : vm_at cX11_told 162 (.iconst 1) 1 163 ∧ Int32.ofInt (1) = (1 : Int32) := ⟨⟨vm_row tbX11_told 46 rfl, rfl⟩, z_iconst_1⟩
theorem dX11_told_163 : vm_br cX11_told 163 (.goto 4) 3 166 (4) 167 := ⟨vm_row tbX11_told 47 rfl, rfl, rfl⟩
theorem dX11_told_166 : vm_at cX11_told 166 (.iconst 0) 1 167 ∧ Int32.ofInt (0) = (0 : Int32) := ⟨⟨vm_row tbX11_told 48 rfl, rfl⟩, z_iconst_0⟩
theorem dX11_told_167 : vm_at cX11_told 167 (.ireturn) 1 168 := ⟨vm_row tbX11_told 49 rfl, rfl⟩
theorem dX11_told_168 : vm_at cX11_told 168 (.aload_n 0) 1 169 ∧ ((0 : Fin 4) : Nat) = 0 := ⟨⟨vm_row tbX11_told 50 rfl, rfl⟩, rfl⟩
theorem dX11_told_169 : vm_at cX11_told 169 (.getfield 29) 3 172 := ⟨vm_row tbX11_told 51 rfl, rfl⟩
theorem dX11_told_172 : vm_at cX11_told 172 (.getfield 117) 3 175 := ⟨vm_row tbX11_told 52 rfl, rfl⟩
theorem dX11_told_175 : vm_at cX11_told 175 (.ireturn) 1 176 := ⟨vm_row tbX11_told 53 rfl, rfl⟩
theorem dX11_told_176 : vm_at cX11_told 176 (.aload_n 0) 1 177 ∧ ((0 : Fin 4) : Nat) = 0 := ⟨⟨vm_row tbX11_told 54 rfl, rfl⟩, rfl⟩
theorem dX11_told_177 : vm_at cX11_told 177 (.getfield 29) 3 180 := ⟨vm_row tbX11_told 55 rfl, rfl⟩
theorem dX11_told_180 : vm_at cX11_told 180 (.getfield 120) 3 183 := ⟨vm_row tbX11_told 56 rfl, rfl⟩
theorem dX11_told_183 : vm_at cX11_told 183 (.ireturn) 1 184 := ⟨vm_row tbX11_told 57 rfl, rfl⟩
theorem dX11_told_184 : vm_at cX11_told 184 (.aload_n 0) 1 185 ∧ ((0 : Fin 4) : Nat) = 0 := ⟨⟨vm_row tbX11_told 58 rfl, rfl⟩, rfl⟩
theorem dX11_told_185 : vm_at cX11_told 185 (.getfield 42) 3 188 := ⟨vm_row tbX11_told 59 rfl, rfl⟩
theorem dX11_told_188 : vm_at cX11_told 188 (.getfield 123) 3 191 := ⟨vm_row tbX11_told 60 rfl, rfl⟩
theorem dX11_told_191 : vm_at cX11_told 191 (.ireturn) 1 192 := ⟨vm_row tbX11_told 61 rfl, rfl⟩
theorem dX11_told_192 : vm_at cX11_told 192 (.ldc 97) 2 194 := ⟨vm_row tbX11_told 62 rfl, rfl⟩
theorem dX11_told_194 : vm_at cX11_told 194 (.ireturn) 1 195 := ⟨vm_row tbX11_told 63 rfl, rfl⟩
def tlX11_key : List (Nat × Instr × Nat) := [(0, .aload_n 0, 1), (1, .iload_n 1, 1), (2, .invokevirtual 163, 3), (5, .ifCond .ne 6, 3), (8, .ldc 166, 2), (10, .ireturn, 1), (11, .iload_n 2, 1), (12, .tableswitch 80 0 3 #[32, 44, 56, 68], 32), (44, .aload_n 0, 1), (45, .getfield 19, 3), (48, .getfield 167, 3), (51, .iload_n 1, 1), (52, .invokestatic 171, 3), (55, .ireturn, 1), (56, .aload_n 0, 1), (57, .getfield 19, 3), (60, .getfield 175, 3), (63, .iload_n 1, 1), (64, .invokestatic 171, 3), (67, .ireturn, 1), (68, .aload_n 0, 1), (69, .getfield 19, 3), (72, .getfield 178, 3), (75, .iload_n 1, 1), (76, .invokestatic 171, 3), (79, .ireturn, 1), (80, .aload_n 0, 1), (81, .getfield 19, 3), (84, .getfield 181, 3), (87, .iload_n 1, 1), (88, .invokestatic 171, 3), (91, .ireturn, 1), (92, .ldc 97, 2), (94, .ireturn, 1)]
theorem tbX11_key : vm_chk cX11_key tlX11_key = true := by decide +kernel
theorem dX11_key_0 : vm_at cX11_key 0 (.aload_n 0) 1 1 ∧ ((0 : Fin 4) : Nat) = 0 := ⟨⟨vm_row tbX11_key 0 rfl, rfl⟩, rfl⟩
theorem dX11_key_1 : vm_at cX11_key 1 (.iload_n 1) 1 2 ∧ ((1 : Fin 4) : Nat) = 1 := ⟨⟨vm_row tbX11_key 1 rfl, rfl⟩, rfl⟩
theorem dX11_key_2 : vm_at cX11_key 2 (.invokevirtual 163) 3 5 := ⟨vm_row tbX11_key 2 rfl, rfl⟩
theorem dX11_key_5 : vm_br cX11_key 5 (.ifCond .ne 6) 3 8 (6) 11 := ⟨vm_row tbX11_key 3 rfl, rfl, rfl⟩
theorem dX11_key_8 : vm_at cX11_key 8 (.ldc 166) 2 10 := ⟨vm_row tbX11_key 4 rfl, rfl⟩
theorem dX11_key_10 : vm_at cX11_key 10 (.ireturn) 1 11 := ⟨vm_row tbX11_key 5 rfl, rfl⟩
theorem dX11_key_11 : vm_at cX11_key 11 (.iload_n 2) 1 12 ∧ ((2 : Fin 4) : Nat) = 2 := ⟨⟨vm_row tbX11_key 6 rfl, rfl⟩, rfl⟩
theorem dX11_key_12 : decode cX11_key 12 = .ok (.tableswitch 80 0 3 #[32, 44, 56, 68], 32) := vm_row tbX11_key 7 rfl
theorem dX11_key_44 : vm_at cX11_key 44 (.aload_n 0) 1 45 ∧ ((0 : Fin 4) : Nat) = 0 := ⟨⟨vm_row tbX11_key 8 rfl, rfl⟩, rfl⟩
theorem dX11_key_45 : vm_at cX11_key 45 (.getfield 19) 3 48 := ⟨vm_row tbX11_key 9 rfl, rfl⟩
theorem dX11_key_48 : vm_at cX11_key 48 (.getfield 167) 3 51 := ⟨vm_row tbX11_key 10 rfl, rfl⟩
theorem dX11_key_51 : vm_at cX11_key 51 (.iload_n 1) 1 52 ∧ ((1 : Fin 4) : Nat) = 1 := ⟨⟨vm_row tbX11_key 11 rfl, rfl⟩, rfl⟩
theorem dX11_key_52 : vm_at cX11_key 52 (.invokestatic 171) 3 55 := ⟨vm_row tbX11_key 12 rfl, rfl⟩
theorem dX11_key_55 : vm_at cX11_key 55 (.ireturn) 1 56 := ⟨vm_row tbX11_key 13 rfl, rfl⟩
theorem dX11_key_56 : vm_at cX11_key 56 (.aload_n 0) 1 57 ∧ ((0 : Fin 4) : Nat) = 0 := ⟨⟨vm_row tbX11_key 14 rfl, rfl⟩, rfl⟩
theorem dX11_key_57 : vm_at cX11_key 57 (.getfield 19) 3 60 := ⟨vm_row tbX11_key 15 rfl, rfl⟩
theorem dX11_key_60 : vm_at cX11_key 60 (.getfield 175) 3 63 := ⟨vm_row tbX11_key 16 rfl, rfl⟩
theorem dX11_key_63 : vm_at cX11_key 63 (.iload_n 1) 1 64 ∧ ((1 : Fin 4) : Nat) = 1 := ⟨⟨vm_row tbX11_key 17 rfl, rfl⟩, rfl⟩
theorem dX11_key_64 : vm_at cX11_key 64 (.invokestatic 171) 3 67 := ⟨vm_row tbX11_key 18 rfl, rfl⟩
theorem dX11_key_67 : vm_at cX11_key 67 (.ireturn) 1 68 := ⟨vm_row tbX11_key 19 rfl, rfl⟩
theorem dX11_key_68 : vm_at cX11_key 68 (.aload_n 0) 1 69 ∧ ((0 : Fin 4) : Nat) = 0 := ⟨⟨vm_row tbX11_key 20 rfl, rfl⟩, rfl⟩
theorem dX11_key_69 : vm_at cX11_key 69 (.getfield 19) 3 72 := ⟨vm_row tbX11_key 21 rfl, rfl⟩
theorem dX11_key_72 : vm_at cX11_key 72 (.getfield 178) 3 75 := ⟨vm_row tbX11_key 22 rfl, rfl⟩
theorem dX11_key_75 : vm_at cX11_key 75 (.iload_n 1) 1 76 ∧ ((1 : Fin 4) : Nat) = 1 := ⟨⟨vm_row tbX11_key 23 rfl, rfl⟩, rfl⟩
theorem dX11_key_76 : vm_at cX11_key 76 (.invokestatic 171) 3 79 := ⟨vm_row tbX11_key 24 rfl, rfl⟩
theorem dX11_key_79 : vm_at cX11_key 79 (.ireturn) 1 80 := ⟨vm_row tbX11_key 25 rfl, rfl⟩
theorem dX11_key_80 : vm_at cX11_key 80 (.aload_n 0) 1 81 ∧ ((0 : Fin 4) : Nat) = 0 := ⟨⟨vm_row tbX11_key 26 rfl, rfl⟩, rfl⟩
theorem dX11_key_81 : vm_at cX11_key 81 (.getfield 19) 3 84 := ⟨vm_row tbX11_key 27 rfl, rfl⟩
theorem dX11_key_84 : vm_at cX11_key 84 (.getfield 181) 3 87 := ⟨vm_row tbX11_key 28 rfl, rfl⟩
theorem dX11_key_87 : vm_at cX11_key 87 (.iload_n 1) 1 88 ∧ ((1 : Fin 4) : Nat) = 1 := ⟨⟨vm_row tbX11_key 29 rfl, rfl⟩, rfl⟩
theorem dX11_key_88 : vm_at cX11_key 88 (.invokestatic 171) 3 91 := ⟨vm_row tbX11_key 30 rfl, rfl⟩
theorem dX11_key_91 : vm_at cX11_key 91 (.ireturn) 1 92 := ⟨vm_row tbX11_key 31 rfl, rfl⟩
theorem dX11_key_92 : vm_at cX11_key 92 (.ldc 97) 2 94 := ⟨vm_row tbX11_key 32 rfl, rfl⟩
theorem dX11_key_94 : vm_at cX11_key 94 (.ireturn) 1 95 := ⟨vm_row tbX11_key 33 rfl, rfl⟩
def tlX11_strike : List (Nat × Instr × Nat) := [(0, .aload_n 0, 1), (1, .iload_n 1, 1), (2, .invokevirtual 163, 3), (5, .ifCond .ne 6, 3), (8, .ldc 166, 2), (10, .ireturn, 1), (11, .aload_n 0, 1), (12, .getfield 29, 3), (15, .aload_n 0, 1), (16, .getfield 19, 3), (19, .iload_n 1, 1), (20, .invokevirtual 184, 3), (23, .aload_n 0, 1), (24, .invokevirtual 128, 3), (27, .aload_n 0, 1), (28, .getfield 29, 3), (31, .getfield 114, 3), (34, .invokestatic 149, 3), (37, .ireturn, 1)]
theorem tbX11_strike : vm_chk cX11_strike tlX11_strike = true := by decide +kernel
theorem dX11_strike_0 : vm_at cX11_strike 0 (.aload_n 0) 1 1 ∧ ((0 : Fin 4) : Nat) = 0 := ⟨⟨vm_row tbX11_strike 0 rfl, rfl⟩, rfl⟩
theorem dX11_strike_1 : vm_at cX11_strike 1 (.iload_n 1) 1 2 ∧ ((1 : Fin 4) : Nat) = 1 := ⟨⟨vm_row tbX11_strike 1 rfl, rfl⟩, rfl⟩
theorem dX11_strike_2 : vm_at cX11_strike 2 (.invokevirtual 163) 3 5 := ⟨vm_row tbX11_strike 2 rfl, rfl⟩
theorem dX11_strike_5 : vm_br cX11_strike 5 (.ifCond .ne 6) 3 8 (6) 11 := ⟨vm_row tbX11_strike 3 rfl, rfl, rfl⟩
theorem dX11_strike_8 : vm_at cX11_strike 8 (.ldc 166) 2 10 := ⟨vm_row tbX11_strike 4 rfl, rfl⟩
theorem dX11_strike_10 : vm_at cX11_strike 10 (.ireturn) 1 11 := ⟨vm_row tbX11_strike 5 rfl, rfl⟩
theorem dX11_strike_11 : vm_at cX11_strike 11 (.aload_n 0) 1 12 ∧ ((0 : Fin 4) : Nat) = 0 := ⟨⟨vm_row tbX11_strike 6 rfl, rfl⟩, rfl⟩
theorem dX11_strike_12 : vm_at cX11_strike 12 (.getfield 29) 3 15 := ⟨vm_row tbX11_strike 7 rfl, rfl⟩
theorem dX11_strike_15 : vm_at cX11_strike 15 (.aload_n 0) 1 16 ∧ ((0 : Fin 4) : Nat) = 0 := ⟨⟨vm_row tbX11_strike 8 rfl, rfl⟩, rfl⟩
theorem dX11_strike_16 : vm_at cX11_strike 16 (.getfield 19) 3 19 := ⟨vm_row tbX11_strike 9 rfl, rfl⟩
theorem dX11_strike_19 : vm_at cX11_strike 19 (.iload_n 1) 1 20 ∧ ((1 : Fin 4) : Nat) = 1 := ⟨⟨vm_row tbX11_strike 10 rfl, rfl⟩, rfl⟩
theorem dX11_strike_20 : vm_at cX11_strike 20 (.invokevirtual 184) 3 23 := ⟨vm_row tbX11_strike 11 rfl, rfl⟩
theorem dX11_strike_23 : vm_at cX11_strike 23 (.aload_n 0) 1 24 ∧ ((0 : Fin 4) : Nat) = 0 := ⟨⟨vm_row tbX11_strike 12 rfl, rfl⟩, rfl⟩
theorem dX11_strike_24 : vm_at cX11_strike 24 (.invokevirtual 128) 3 27 := ⟨vm_row tbX11_strike 13 rfl, rfl⟩
theorem dX11_strike_27 : vm_at cX11_strike 27 (.aload_n 0) 1 28 ∧ ((0 : Fin 4) : Nat) = 0 := ⟨⟨vm_row tbX11_strike 14 rfl, rfl⟩, rfl⟩
theorem dX11_strike_28 : vm_at cX11_strike 28 (.getfield 29) 3 31 := ⟨vm_row tbX11_strike 15 rfl, rfl⟩
theorem dX11_strike_31 : vm_at cX11_strike 31 (.getfield 114) 3 34 := ⟨vm_row tbX11_strike 16 rfl, rfl⟩
theorem dX11_strike_34 : vm_at cX11_strike 34 (.invokestatic 149) 3 37 := ⟨vm_row tbX11_strike 17 rfl, rfl⟩
theorem dX11_strike_37 : vm_at cX11_strike 37 (.ireturn) 1 38 := ⟨vm_row tbX11_strike 18 rfl, rfl⟩
def tlX11_begin : List (Nat × Instr × Nat) := [(0, .aload_n 0, 1), (1, .getfield 29, 3), (4, .getfield 114, 3), (7, .invokestatic 149, 3), (10, .istore_n 1, 1), (11, .aload_n 0, 1), (12, .getfield 29, 3), (15, .iconst 0, 1), (16, .putfield 114, 3), (19, .aload_n 0, 1), (20, .invokevirtual 128, 3), (23, .iload_n 1, 1), (24, .ireturn, 1)]
theorem tbX11_begin : vm_chk cX11_begin tlX11_begin = true := by decide +kernel
theorem dX11_begin_0 : vm_at cX11_begin 0 (.aload_n 0) 1 1 ∧ ((0 : Fin 4) : Nat) = 0 := ⟨⟨vm_row tbX11_begin 0 rfl, rfl⟩, rfl⟩
theorem dX11_begin_1 : vm_at cX11_begin 1 (.getfield 29) 3 4 := ⟨vm_row tbX11_begin 1 rfl, rfl⟩
theorem dX11_begin_4 : vm_at cX11_begin 4 (.getfield 114) 3 7 := ⟨vm_row tbX11_begin 2 rfl, rfl⟩
theorem dX11_begin_7 : vm_at cX11_begin 7 (.invokestatic 149) 3 10 := ⟨vm_row tbX11_begin 3 rfl, rfl⟩
theorem dX11_begin_10 : vm_at cX11_begin 10 (.istore_n 1) 1 11 ∧ ((1 : Fin 4) : Nat) = 1 := ⟨⟨vm_row tbX11_begin 4 rfl, rfl⟩, rfl⟩
theorem dX11_begin_11 : vm_at cX11_begin 11 (.aload_n 0) 1 12 ∧ ((0 : Fin 4) : Nat) = 0 := ⟨⟨vm_row tbX11_begin 5 rfl, rfl⟩, rfl⟩
theorem dX11_begin_12 : vm_at cX11_begin 12 (.getfield 29) 3 15 := ⟨vm_row tbX11_begin 6 rfl, rfl⟩
theorem dX11_begin_15 : vm_at cX11_begin 15 (.iconst 0) 1 16 ∧ Int32.ofInt (0) = (0 : Int32) := ⟨⟨vm_row tbX11_begin 7 rfl, rfl⟩, z_iconst_0⟩
theorem dX11_begin_16 : vm_at cX11_begin 16 (.putfield 114) 3 19 := ⟨vm_row tbX11_begin 8 rfl, rfl⟩
theorem dX11_begin_19 : vm_at cX11_begin 19 (.aload_n 0) 1 20 ∧ ((0 : Fin 4) : Nat) = 0 := ⟨⟨vm_row tbX11_begin 9 rfl, rfl⟩, rfl⟩
theorem dX11_begin_20 : vm_at cX11_begin 20 (.invokevirtual 128) 3 23 := ⟨vm_row tbX11_begin 10 rfl, rfl⟩
theorem dX11_begin_23 : vm_at cX11_begin 23 (.iload_n 1) 1 24 ∧ ((1 : Fin 4) : Nat) = 1 := ⟨⟨vm_row tbX11_begin 11 rfl, rfl⟩, rfl⟩
theorem dX11_begin_24 : vm_at cX11_begin 24 (.ireturn) 1 25 := ⟨vm_row tbX11_begin 12 rfl, rfl⟩
def tlX11_fewest : List (Nat × Instr × Nat) := [(0, .aload_n 0, 1), (1, .iload_n 1, 1), (2, .invokevirtual 188, 3), (5, .ifCond .ne 6, 3), (8, .ldc 97, 2), (10, .ireturn, 1), (11, .aload_n 0, 1), (12, .getfield 58, 3), (15, .aload_n 0, 1), (16, .getfield 19, 3), (19, .aload_n 0, 1), (20, .getfield 29, 3), (23, .getfield 114, 3), (26, .invokevirtual 191, 3), (29, .aload_n 0, 1), (30, .getfield 58, 3), (33, .iload_n 1, 1), (34, .invokevirtual 194, 3), (37, .ireturn, 1)]
theorem tbX11_fewest : vm_chk cX11_fewest tlX11_fewest = true := by decide +kernel
theorem dX11_fewest_0 : vm_at cX11_fewest 0 (.aload_n 0) 1 1 ∧ ((0 : Fin 4) : Nat) = 0 := ⟨⟨vm_row tbX11_fewest 0 rfl, rfl⟩, rfl⟩
theorem dX11_fewest_1 : vm_at cX11_fewest 1 (.iload_n 1) 1 2 ∧ ((1 : Fin 4) : Nat) = 1 := ⟨⟨vm_row tbX11_fewest 1 rfl, rfl⟩, rfl⟩
theorem dX11_fewest_2 : vm_at cX11_fewest 2 (.invokevirtual 188) 3 5 := ⟨vm_row tbX11_fewest 2 rfl, rfl⟩
theorem dX11_fewest_5 : vm_br cX11_fewest 5 (.ifCond .ne 6) 3 8 (6) 11 := ⟨vm_row tbX11_fewest 3 rfl, rfl, rfl⟩
theorem dX11_fewest_8 : vm_at cX11_fewest 8 (.ldc 97) 2 10 := ⟨vm_row tbX11_fewest 4 rfl, rfl⟩
theorem dX11_fewest_10 : vm_at cX11_fewest 10 (.ireturn) 1 11 := ⟨vm_row tbX11_fewest 5 rfl, rfl⟩
theorem dX11_fewest_11 : vm_at cX11_fewest 11 (.aload_n 0) 1 12 ∧ ((0 : Fin 4) : Nat) = 0 := ⟨⟨vm_row tbX11_fewest 6 rfl, rfl⟩, rfl⟩
theorem dX11_fewest_12 : vm_at cX11_fewest 12 (.getfield 58) 3 15 := ⟨vm_row tbX11_fewest 7 rfl, rfl⟩
theorem dX11_fewest_15 : vm_at cX11_fewest 15 (.aload_n 0) 1 16 ∧ ((0 : Fin 4) : Nat) = 0 := ⟨⟨vm_row tbX11_fewest 8 rfl, rfl⟩, rfl⟩
theorem dX11_fewest_16 : vm_at cX11_fewest 16 (.getfield 19) 3 19 := ⟨vm_row tbX11_fewest 9 rfl, rfl⟩
theorem dX11_fewest_19 : vm_at cX11_fewest 19 (.aload_n 0) 1 20 ∧ ((0 : Fin 4) : Nat) = 0 := ⟨⟨vm_row tbX11_fewest 10 rfl, rfl⟩, rfl⟩
theorem dX11_fewest_20 : vm_at cX11_fewest 20 (.getfield 29) 3 23 := ⟨vm_row tbX11_fewest 11 rfl, rfl⟩
theorem dX11_fewest_23 : vm_at cX11_fewest 23 (.getfield 114) 3 26 := ⟨vm_row tbX11_fewest 12 rfl, rfl⟩
theorem dX11_fewest_26 : vm_at cX11_fewest 26 (.invokevirtual 191) 3 29 := ⟨vm_row tbX11_fewest 13 rfl, rfl⟩
theorem dX11_fewest_29 : vm_at cX11_fewest 29 (.aload_n 0) 1 30 ∧ ((0 : Fin 4) : Nat) = 0 := ⟨⟨vm_row tbX11_fewest 14 rfl, rfl⟩, rfl⟩
theorem dX11_fewest_30 : vm_at cX11_fewest 30 (.getfield 58) 3 33 := ⟨vm_row tbX11_fewest 15 rfl, rfl⟩
theorem dX11_fewest_33 : vm_at cX11_fewest 33 (.iload_n 1) 1 34 ∧ ((1 : Fin 4) : Nat) = 1 := ⟨⟨vm_row tbX11_fewest 16 rfl, rfl⟩, rfl⟩
theorem dX11_fewest_34 : vm_at cX11_fewest 34 (.invokevirtual 194) 3 37 := ⟨vm_row tbX11_fewest 17 rfl, rfl⟩
theorem dX11_fewest_37 : vm_at cX11_fewest 37 (.ireturn) 1 38 := ⟨vm_row tbX11_fewest 18 rfl, rfl⟩
def tlX11_way : List (Nat × Instr × Nat) := [(0, .aload_n 0, 1), (1, .iload_n 1, 1), (2, .invokevirtual 188, 3), (5, .ifCond .ne 6, 3), (8, .ldc 97, 2), (10, .ireturn, 1), (11, .aload_n 0, 1), (12, .getfield 58, 3), (15, .aload_n 0, 1), (16, .getfield 19, 3), (19, .aload_n 0, 1), (20, .getfield 29, 3), (23, .getfield 114, 3), (26, .invokevirtual 197, 3), (29, .aload_n 0, 1), (30, .getfield 58, 3), (33, .iload_n 1, 1), (34, .iload_n 2, 1), (35, .invokevirtual 200, 3), (38, .ireturn, 1)]
theorem tbX11_way : vm_chk cX11_way tlX11_way = true := by decide +kernel
theorem dX11_way_0 : vm_at cX11_way 0 (.aload_n 0) 1 1 ∧ ((0 : Fin 4) : Nat) = 0 := ⟨⟨vm_row tbX11_way 0 rfl, rfl⟩, rfl⟩
theorem dX11_way_1 : vm_at cX11_way 1 (.iload_n 1) 1 2 ∧ ((1 : Fin 4) : Nat) = 1 := ⟨⟨vm_row tbX11_way 1 rfl, rfl⟩, rfl⟩
theorem dX11_way_2 : vm_at cX11_way 2 (.invokevirtual 188) 3 5 := ⟨vm_row tbX11_way 2 rfl, rfl⟩
theorem dX11_way_5 : vm_br cX11_way 5 (.ifCond .ne 6) 3 8 (6) 11 := ⟨vm_row tbX11_way 3 rfl, rfl, rfl⟩
theorem dX11_way_8 : vm_at cX11_way 8 (.ldc 97) 2 10 := ⟨vm_row tbX11_way 4 rfl, rfl⟩
theorem dX11_way_10 : vm_at cX11_way 10 (.ireturn) 1 11 := ⟨vm_row tbX11_way 5 rfl, rfl⟩
theorem dX11_way_11 : vm_at cX11_way 11 (.aload_n 0) 1 12 ∧ ((0 : Fin 4) : Nat) = 0 := ⟨⟨vm_row tbX11_way 6 rfl, rfl⟩, rfl⟩
theorem dX11_way_12 : vm_at cX11_way 12 (.getfield 58) 3 15 := ⟨vm_row tbX11_way 7 rfl, rfl⟩
theorem dX11_way_15 : vm_at cX11_way 15 (.aload_n 0) 1 16 ∧ ((0 : Fin 4) : Nat) = 0 := ⟨⟨vm_row tbX11_way 8 rfl, rfl⟩, rfl⟩
theorem dX11_way_16 : vm_at cX11_way 16 (.getfield 19) 3 19 := ⟨vm_row tbX11_way 9 rfl, rfl⟩
theorem dX11_way_19 : vm_at cX11_way 19 (.aload_n 0) 1 20 ∧ ((0 : Fin 4) : Nat) = 0 := ⟨⟨vm_row tbX11_way 10 rfl, rfl⟩, rfl⟩
theorem dX11_way_20 : vm_at cX11_way 20 (.getfield 29) 3 23 := ⟨vm_row tbX11_way 11 rfl, rfl⟩
theorem dX11_way_23 : vm_at cX11_way 23 (.getfield 114) 3 26 := ⟨vm_row tbX11_way 12 rfl, rfl⟩
theorem dX11_way_26 : vm_at cX11_way 26 (.invokevirtual 197) 3 29 := ⟨vm_row tbX11_way 13 rfl, rfl⟩
theorem dX11_way_29 : vm_at cX11_way 29 (.aload_n 0) 1 30 ∧ ((0 : Fin 4) : Nat) = 0 := ⟨⟨vm_row tbX11_way 14 rfl, rfl⟩, rfl⟩
theorem dX11_way_30 : vm_at cX11_way 30 (.getfield 58) 3 33 := ⟨vm_row tbX11_way 15 rfl, rfl⟩
theorem dX11_way_33 : vm_at cX11_way 33 (.iload_n 1) 1 34 ∧ ((1 : Fin 4) : Nat) = 1 := ⟨⟨vm_row tbX11_way 16 rfl, rfl⟩, rfl⟩
theorem dX11_way_34 : vm_at cX11_way 34 (.iload_n 2) 1 35 ∧ ((2 : Fin 4) : Nat) = 2 := ⟨⟨vm_row tbX11_way 17 rfl, rfl⟩, rfl⟩
theorem dX11_way_35 : vm_at cX11_way 35 (.invokevirtual 200) 3 38 := ⟨vm_row tbX11_way 18 rfl, rfl⟩
theorem dX11_way_38 : vm_at cX11_way 38 (.ireturn) 1 39 := ⟨vm_row tbX11_way 19 rfl, rfl⟩
def tlX11_least : List (Nat × Instr × Nat) := [(0, .aload_n 0, 1), (1, .iload_n 1, 1), (2, .invokevirtual 188, 3), (5, .ifCond .ne 6, 3), (8, .ldc 97, 2), (10, .ireturn, 1), (11, .aload_n 0, 1), (12, .getfield 65, 3), (15, .aload_n 0, 1), (16, .getfield 19, 3), (19, .aload_n 0, 1), (20, .getfield 29, 3), (23, .getfield 114, 3), (26, .invokevirtual 204, 3), (29, .aload_n 0, 1), (30, .getfield 65, 3), (33, .getfield 205, 3), (36, .iload_n 1, 1), (37, .invokestatic 171, 3), (40, .ireturn, 1)]
theorem tbX11_least : vm_chk cX11_least tlX11_least = true := by decide +kernel
theorem dX11_least_0 : vm_at cX11_least 0 (.aload_n 0) 1 1 ∧ ((0 : Fin 4) : Nat) = 0 := ⟨⟨vm_row tbX11_least 0 rfl, rfl⟩, rfl⟩
theorem dX11_least_1 : vm_at cX11_least 1 (.iload_n 1) 1 2 ∧ ((1 : Fin 4) : Nat) = 1 := ⟨⟨vm_row tbX11_least 1 rfl, rfl⟩, rfl⟩
theorem dX11_least_2 : vm_at cX11_least 2 (.invokevirtual 188) 3 5 := ⟨vm_row tbX11_least 2 rfl, rfl⟩
theorem dX11_least_5 : vm_br cX11_least 5 (.ifCond .ne 6) 3 8 (6) 11 := ⟨vm_row tbX11_least 3 rfl, rfl, rfl⟩
theorem dX11_least_8 : vm_at cX11_least 8 (.ldc 97) 2 10 := ⟨vm_row tbX11_least 4 rfl, rfl⟩
theorem dX11_least_10 : vm_at cX11_least 10 (.ireturn) 1 11 := ⟨vm_row tbX11_least 5 rfl, rfl⟩
theorem dX11_least_11 : vm_at cX11_least 11 (.aload_n 0) 1 12 ∧ ((0 : Fin 4) : Nat) = 0 := ⟨⟨vm_row tbX11_least 6 rfl, rfl⟩, rfl⟩
theorem dX11_least_12 : vm_at cX11_least 12 (.getfield 65) 3 15 := ⟨vm_row tbX11_least 7 rfl, rfl⟩
theorem dX11_least_15 : vm_at cX11_least 15 (.aload_n 0) 1 16 ∧ ((0 : Fin 4) : Nat) = 0 := ⟨⟨vm_row tbX11_least 8 rfl, rfl⟩, rfl⟩
theorem dX11_least_16 : vm_at cX11_least 16 (.getfield 19) 3 19 := ⟨vm_row tbX11_least 9 rfl, rfl⟩
theorem dX11_least_19 : vm_at cX11_least 19 (.aload_n 0) 1 20 ∧ ((0 : Fin 4) : Nat) = 0 := ⟨⟨vm_row tbX11_least 10 rfl, rfl⟩, rfl⟩
theorem dX11_least_20 : vm_at cX11_least 20 (.getfield 29) 3 23 := ⟨vm_row tbX11_least 11 rfl, rfl⟩
theorem dX11_least_23 : vm_at cX11_least 23 (.getfield 114) 3 26 := ⟨vm_row tbX11_least 12 rfl, rfl⟩
theorem dX11_least_26 : vm_at cX11_least 26 (.invokevirtual 204) 3 29 := ⟨vm_row tbX11_least 13 rfl, rfl⟩
theorem dX11_least_29 : vm_at cX11_least 29 (.aload_n 0) 1 30 ∧ ((0 : Fin 4) : Nat) = 0 := ⟨⟨vm_row tbX11_least 14 rfl, rfl⟩, rfl⟩
theorem dX11_least_30 : vm_at cX11_least 30 (.getfield 65) 3 33 := ⟨vm_row tbX11_least 15 rfl, rfl⟩
theorem dX11_least_33 : vm_at cX11_least 33 (.getfield 205) 3 36 := ⟨vm_row tbX11_least 16 rfl, rfl⟩
theorem dX11_least_36 : vm_at cX11_least 36 (.iload_n 1) 1 37 ∧ ((1 : Fin 4) : Nat) = 1 := ⟨⟨vm_row tbX11_least 17 rfl, rfl⟩, rfl⟩
theorem dX11_least_37 : vm_at cX11_least 37 (.invokestatic 171) 3 40 := ⟨vm_row tbX11_least 18 rfl, rfl⟩
theorem dX11_least_40 : vm_at cX11_least 40 (.ireturn) 1 41 := ⟨vm_row tbX11_least 19 rfl, rfl⟩
def tlX11_never : List (Nat × Instr × Nat) := [(0, .aload_n 0, 1), (1, .getfield 58, 3), (4, .aload_n 0, 1), (5, .getfield 19, 3), (8, .aload_n 0, 1), (9, .getfield 29, 3), (12, .getfield 114, 3), (15, .invokevirtual 191, 3), (18, .iconst 0, 1), (19, .istore_n 2, 1), (20, .iconst 0, 1), (21, .istore_n 3, 1), (22, .iload_n 3, 1), (23, .aload_n 0, 1), (24, .getfield 19, 3), (27, .getfield 131, 3), (30, .if_icmp .ge 31, 3), (33, .aload_n 0, 1), (34, .getfield 58, 3), (37, .iload_n 3, 1), (38, .invokevirtual 194, 3), (41, .iconst (-1), 1), (42, .if_icmp .ne 13, 3), (45, .iload_n 2, 1), (46, .iload_n 1, 1), (47, .if_icmp .ne 5, 3), (50, .iload_n 3, 1), (51, .ireturn, 1), (52, .iinc 2 1, 3), (55, .iinc 3 1, 3), (58, .goto (-36), 3), (61, .iload_n 1, 1), (62, .iconst (-1), 1), (63, .if_icmp .ne 7, 3), (66, .iload_n 2, 1), (67, .goto 4, 3), (70, .iconst (-1), 1), (71, .ireturn, 1)]
theorem tbX11_never : vm_chk cX11_never tlX11_never = true := by decide +kernel
theorem dX11_never_0 : vm_at cX11_never 0 (.aload_n 0) 1 1 ∧ ((0 : Fin 4) : Nat) = 0 := ⟨⟨vm_row tbX11_never 0 rfl, rfl⟩, rfl⟩
theorem dX11_never_1 : vm_at cX11_never 1 (.getfield 58) 3 4 := ⟨vm_row tbX11_never 1 rfl, rfl⟩
theorem dX11_never_4 : vm_at cX11_never 4 (.aload_n 0) 1 5 ∧ ((0 : Fin 4) : Nat) = 0 := ⟨⟨vm_row tbX11_never 2 rfl, rfl⟩, rfl⟩
theorem dX11_never_5 : vm_at cX11_never 5 (.getfield 19) 3 8 := ⟨vm_row tbX11_never 3 rfl, rfl⟩
theorem dX11_never_8 : vm_at cX11_never 8 (.aload_n 0) 1 9 ∧ ((0 : Fin 4) : Nat) = 0 := ⟨⟨vm_row tbX11_never 4 rfl, rfl⟩, rfl⟩
theorem dX11_never_9 : vm_at cX11_never 9 (.getfield 29) 3 12 := ⟨vm_row tbX11_never 5 rfl, rfl⟩
theorem dX11_never_12 : vm_at cX11_never 12 (.getfield 114) 3 15 := ⟨vm_row tbX11_never 6 rfl, rfl⟩
theorem dX11_never_15 : vm_at cX11_never 15 (.invokevirtual 191) 3 18 := ⟨vm_row tbX11_never 7 rfl, rfl⟩
theorem dX11_never_18 : vm_at cX11_never 18 (.iconst 0) 1 19 ∧ Int32.ofInt (0) = (0 : Int32) := ⟨⟨vm_row tbX11_never 8 rfl, rfl⟩, z_iconst_0⟩
theorem dX11_never_19 : vm_at cX11_never 19 (.istore_n 2) 1 20 ∧ ((2 : Fin 4) : Nat) = 2 := ⟨⟨vm_row tbX11_never 9 rfl, rfl⟩, rfl⟩
theorem dX11_never_20 : vm_at cX11_never 20 (.iconst 0) 1 21 ∧ Int32.ofInt (0) = (0 : Int32) := ⟨⟨vm_row tbX11_never 10 rfl, rfl⟩, z_iconst_0⟩
theorem dX11_never_21 : vm_at cX11_never 21 (.istore_n 3) 1 22 ∧ ((3 : Fin 4) : Nat) = 3 := ⟨⟨vm_row tbX11_never 11 rfl, rfl⟩, rfl⟩
theorem dX11_never_22 : vm_at cX11_never 22 (.iload_n 3) 1 23 ∧ ((3 : Fin 4) : Nat) = 3 := ⟨⟨vm_row tbX11_never 12 rfl, rfl⟩, rfl⟩
theorem dX11_never_23 : vm_at cX11_never 23 (.aload_n 0) 1 24 ∧ ((0 : Fin 4) : Nat) = 0 := ⟨⟨vm_row tbX11_never 13 rfl, rfl⟩, rfl⟩
theorem dX11_never_24 : vm_at cX11_never 24 (.getfield 19) 3 27 := ⟨vm_row tbX11_never 14 rfl, rfl⟩
theorem dX11_never_27 : vm_at cX11_never 27 (.getfield 131) 3 30 := ⟨vm_row tbX11_never 15 rfl, rfl⟩
theorem dX11_never_30 : vm_br cX11_never 30 (.if_icmp .ge 31) 3 33 (31) 61 := ⟨vm_row tbX11_never 16 rfl, rfl, rfl⟩
theorem dX11_never_33 : vm_at cX11_never 33 (.aload_n 0) 1 34 ∧ ((0 : Fin 4) : Nat) = 0 := ⟨⟨vm_row tbX11_never 17 rfl, rfl⟩, rfl⟩
theorem dX11_never_34 : vm_at cX11_never 34 (.getfield 58) 3 37 := ⟨vm_row tbX11_never 18 rfl, rfl⟩
theorem dX11_never_37 : vm_at cX11_never 37 (.iload_n 3) 1 38 ∧ ((3 : Fin 4) : Nat) = 3 := ⟨⟨vm_row tbX11_never 19 rfl, rfl⟩, rfl⟩
theorem dX11_never_38 : vm_at cX11_never 38 (.invokevirtual 194) 3 41 := ⟨vm_row tbX11_never 20 rfl, rfl⟩
theorem dX11_never_41 : vm_at cX11_never 41 (.iconst (-1)) 1 42 ∧ Int32.ofInt (-1) = (-1 : Int32) := ⟨⟨vm_row tbX11_never 21 rfl, rfl⟩, z_iconst_m1⟩
theorem dX11_never_42 : vm_br cX11_never 42 (.if_icmp .ne 13) 3 45 (13) 55 := ⟨vm_row tbX11_never 22 rfl, rfl, rfl⟩
theorem dX11_never_45 : vm_at cX11_never 45 (.iload_n 2) 1 46 ∧ ((2 : Fin 4) : Nat) = 2 := ⟨⟨vm_row tbX11_never 23 rfl, rfl⟩, rfl⟩
theorem dX11_never_46 : vm_at cX11_never 46 (.iload_n 1) 1 47 ∧ ((1 : Fin 4) : Nat) = 1 := ⟨⟨vm_row tbX11_never 24 rfl, rfl⟩, rfl⟩
theorem dX11_never_47 : vm_br cX11_never 47 (.if_icmp .ne 5) 3 50 (5) 52 := ⟨vm_row tbX11_never 25 rfl, rfl, rfl⟩
theorem dX11_never_50 : vm_at cX11_never 50 (.iload_n 3) 1 51 ∧ ((3 : Fin 4) : Nat) = 3 := ⟨⟨vm_row tbX11_never 26 rfl, rfl⟩, rfl⟩
theorem dX11_never_51 : vm_at cX11_never 51 (.ireturn) 1 52 := ⟨vm_row tbX11_never 27 rfl, rfl⟩
theorem dX11_never_52 : vm_at cX11_never 52 (.iinc 2 1) 3 55 ∧ Int32.ofInt (1) = (1 : Int32) := ⟨⟨vm_row tbX11_never 28 rfl, rfl⟩, z_iconst_1⟩
theorem dX11_never_55 : vm_at cX11_never 55 (.iinc 3 1) 3 58 ∧ Int32.ofInt (1) = (1 : Int32) := ⟨⟨vm_row tbX11_never 29 rfl, rfl⟩, z_iconst_1⟩
theorem dX11_never_58 : vm_br cX11_never 58 (.goto (-36)) 3 61 (-36) 22 := ⟨vm_row tbX11_never 30 rfl, rfl, rfl⟩
theorem dX11_never_61 : vm_at cX11_never 61 (.iload_n 1) 1 62 ∧ ((1 : Fin 4) : Nat) = 1 := ⟨⟨vm_row tbX11_never 31 rfl, rfl⟩, rfl⟩
theorem dX11_never_62 : vm_at cX11_never 62 (.iconst (-1)) 1 63 ∧ Int32.ofInt (-1) = (-1 : Int32) := ⟨⟨vm_row tbX11_never 32 rfl, rfl⟩, z_iconst_m1⟩
theorem dX11_never_63 : vm_br cX11_never 63 (.if_icmp .ne 7) 3 66 (7) 70 := ⟨vm_row tbX11_never 33 rfl, rfl, rfl⟩
theorem dX11_never_66 : vm_at cX11_never 66 (.iload_n 2) 1 67 ∧ ((2 : Fin 4) : Nat) = 2 := ⟨⟨vm_row tbX11_never 34 rfl, rfl⟩, rfl⟩
theorem dX11_never_67 : vm_br cX11_never 67 (.goto 4) 3 70 (4) 71 := ⟨vm_row tbX11_never 35 rfl, rfl, rfl⟩
theorem dX11_never_70 : vm_at cX11_never 70 (.iconst (-1)) 1 71 ∧ Int32.ofInt (-1) = (-1 : Int32) := ⟨⟨vm_row tbX11_never 36 rfl, rfl⟩, z_iconst_m1⟩
theorem dX11_never_71 : vm_at cX11_never 71 (.ireturn) 1 72 := ⟨vm_row tbX11_never 37 rfl, rfl⟩
def tlX11_farthest : List (Nat × Instr × Nat) := [(0, .iload_n 1, 1), (1, .ifCond .lt 8, 3), (4, .iload_n 1, 1), (5, .iconst 1, 1), (6, .if_icmp .le 6, 3), (9, .ldc 97, 2), (11, .ireturn, 1), (12, .aload_n 0, 1), (13, .getfield 19, 3), (16, .getfield 131, 3), (19, .ifCond .ne 6, 3), (22, .ldc 208, 2), (24, .ireturn, 1), (25, .aload_n 0, 1), (26, .getfield 58, 3), (29, .aload_n 0, 1), (30, .getfield 19, 3), (33, .aload_n 0, 1), (34, .getfield 29, 3), (37, .getfield 114, 3), (40, .invokevirtual 191, 3), (43, .iconst 0, 1), (44, .istore_n 2, 1), (45, .iconst 1, 1), (46, .istore_n 3, 1), (47, .iload_n 3, 1), (48, .aload_n 0, 1), (49, .getfield 19, 3), (52, .getfield 131, 3), (55, .if_icmp .ge 30, 3), (58, .aload_n 0, 1), (59, .getfield 58, 3), (62, .iload_n 3, 1), (63, .invokevirtual 194, 3), (66, .aload_n 0, 1), (67, .getfield 58, 3), (70, .iload_n 2, 1), (71, .invokevirtual 194, 3), (74, .if_icmp .le 5, 3), (77, .iload_n 3, 1), (78, .istore_n 2, 1), (79, .iinc 3 1, 3), (82, .goto (-35), 3), (85, .iload_n 1, 1), (86, .ifCond .ne 7, 3), (89, .iload_n 2, 1), (90, .goto 11, 3), (93, .aload_n 0, 1), (94, .getfield 58, 3), (97, .iload_n 2, 1), (98, .invokevirtual 194, 3), (101, .ireturn, 1)]
theorem tbX11_farthest : vm_chk cX11_farthest tlX11_farthest = true := by decide +kernel
theorem dX11_farthest_0 : vm_at cX11_farthest 0 (.iload_n 1) 1 1 ∧ ((1 : Fin 4) : Nat) = 1 := ⟨⟨vm_row tbX11_farthest 0 rfl, rfl⟩, rfl⟩
theorem dX11_farthest_1 : vm_br cX11_farthest 1 (.ifCond .lt 8) 3 4 (8) 9 := ⟨vm_row tbX11_farthest 1 rfl, rfl, rfl⟩
theorem dX11_farthest_4 : vm_at cX11_farthest 4 (.iload_n 1) 1 5 ∧ ((1 : Fin 4) : Nat) = 1 := ⟨⟨vm_row tbX11_farthest 2 rfl, rfl⟩, rfl⟩
theorem dX11_farthest_5 : vm_at cX11_farthest 5 (.iconst 1) 1 6 ∧ Int32.ofInt (1) = (1 : Int32) := ⟨⟨vm_row tbX11_farthest 3 rfl, rfl⟩, z_iconst_1⟩
theorem dX11_farthest_6 : vm_br cX11_farthest 6 (.if_icmp .le 6) 3 9 (6) 12 := ⟨vm_row tbX11_farthest 4 rfl, rfl, rfl⟩
theorem dX11_farthest_9 : vm_at cX11_farthest 9 (.ldc 97) 2 11 := ⟨vm_row tbX11_farthest 5 rfl, rfl⟩
theorem dX11_farthest_11 : vm_at cX11_farthest 11 (.ireturn) 1 12 := ⟨vm_row tbX11_farthest 6 rfl, rfl⟩
theorem dX11_farthest_12 : vm_at cX11_farthest 12 (.aload_n 0) 1 13 ∧ ((0 : Fin 4) : Nat) = 0 := ⟨⟨vm_row tbX11_farthest 7 rfl, rfl⟩, rfl⟩
theorem dX11_farthest_13 : vm_at cX11_farthest 13 (.getfield 19) 3 16 := ⟨vm_row tbX11_farthest 8 rfl, rfl⟩
theorem dX11_farthest_16 : vm_at cX11_farthest 16 (.getfield 131) 3 19 := ⟨vm_row tbX11_farthest 9 rfl, rfl⟩
theorem dX11_farthest_19 : vm_br cX11_farthest 19 (.ifCond .ne 6) 3 22 (6) 25 := ⟨vm_row tbX11_farthest 10 rfl, rfl, rfl⟩
theorem dX11_farthest_22 : vm_at cX11_farthest 22 (.ldc 208) 2 24 := ⟨vm_row tbX11_farthest 11 rfl, rfl⟩
theorem dX11_farthest_24 : vm_at cX11_farthest 24 (.ireturn) 1 25 := ⟨vm_row tbX11_farthest 12 rfl, rfl⟩
theorem dX11_farthest_25 : vm_at cX11_farthest 25 (.aload_n 0) 1 26 ∧ ((0 : Fin 4) : Nat) = 0 := ⟨⟨vm_row tbX11_farthest 13 rfl, rfl⟩, rfl⟩
theorem dX11_farthest_26 : vm_at cX11_farthest 26 (.getfield 58) 3 29 := ⟨vm_row tbX11_farthest 14 rfl, rfl⟩
theorem dX11_farthest_29 : vm_at cX11_farthest 29 (.aload_n 0) 1 30 ∧ ((0 : Fin 4) : Nat) = 0 := ⟨⟨vm_row tbX11_farthest 15 rfl, rfl⟩, rfl⟩
theorem dX11_farthest_30 : vm_at cX11_farthest 30 (.getfield 19) 3 33 := ⟨vm_row tbX11_farthest 16 rfl, rfl⟩
theorem dX11_farthest_33 : vm_at cX11_farthest 33 (.aload_n 0) 1 34 ∧ ((0 : Fin 4) : Nat) = 0 := ⟨⟨vm_row tbX11_farthest 17 rfl, rfl⟩, rfl⟩
theorem dX11_farthest_34 : vm_at cX11_farthest 34 (.getfield 29) 3 37 := ⟨vm_row tbX11_farthest 18 rfl, rfl⟩
theorem dX11_farthest_37 : vm_at cX11_farthest 37 (.getfield 114) 3 40 := ⟨vm_row tbX11_farthest 19 rfl, rfl⟩
theorem dX11_farthest_40 : vm_at cX11_farthest 40 (.invokevirtual 191) 3 43 := ⟨vm_row tbX11_farthest 20 rfl, rfl⟩
theorem dX11_farthest_43 : vm_at cX11_farthest 43 (.iconst 0) 1 44 ∧ Int32.ofInt (0) = (0 : Int32) := ⟨⟨vm_row tbX11_farthest 21 rfl, rfl⟩, z_iconst_0⟩
theorem dX11_farthest_44 : vm_at cX11_farthest 44 (.istore_n 2) 1 45 ∧ ((2 : Fin 4) : Nat) = 2 := ⟨⟨vm_row tbX11_farthest 22 rfl, rfl⟩, rfl⟩
theorem dX11_farthest_45 : vm_at cX11_farthest 45 (.iconst 1) 1 46 ∧ Int32.ofInt (1) = (1 : Int32) := ⟨⟨vm_row tbX11_farthest 23 rfl, rfl⟩, z_iconst_1⟩
theorem dX11_farthest_46 : vm_at cX11_farthest 46 (.istore_n 3) 1 47 ∧ ((3 : Fin 4) : Nat) = 3 := ⟨⟨vm_row tbX11_farthest 24 rfl, rfl⟩, rfl⟩
theorem dX11_farthest_47 : vm_at cX11_farthest 47 (.iload_n 3) 1 48 ∧ ((3 : Fin 4) : Nat) = 3 := ⟨⟨vm_row tbX11_farthest 25 rfl, rfl⟩, rfl⟩
theorem dX11_farthest_48 : vm_at cX11_farthest 48 (.aload_n 0) 1 49 ∧ ((0 : Fin 4) : Nat) = 0 := ⟨⟨vm_row tbX11_farthest 26 rfl, rfl⟩, rfl⟩
theorem dX11_farthest_49 : vm_at cX11_farthest 49 (.getfield 19) 3 52 := ⟨vm_row tbX11_farthest 27 rfl, rfl⟩
theorem dX11_farthest_52 : vm_at cX11_farthest 52 (.getfield 131) 3 55 := ⟨vm_row tbX11_farthest 28 rfl, rfl⟩
theorem dX11_farthest_55 : vm_br cX11_farthest 55 (.if_icmp .ge 30) 3 58 (30) 85 := ⟨vm_row tbX11_farthest 29 rfl, rfl, rfl⟩
theorem dX11_farthest_58 : vm_at cX11_farthest 58 (.aload_n 0) 1 59 ∧ ((0 : Fin 4) : Nat) = 0 := ⟨⟨vm_row tbX11_farthest 30 rfl, rfl⟩, rfl⟩
theorem dX11_farthest_59 : vm_at cX11_farthest 59 (.getfield 58) 3 62 := ⟨vm_row tbX11_farthest 31 rfl, rfl⟩
theorem dX11_farthest_62 : vm_at cX11_farthest 62 (.iload_n 3) 1 63 ∧ ((3 : Fin 4) : Nat) = 3 := ⟨⟨vm_row tbX11_farthest 32 rfl, rfl⟩, rfl⟩
theorem dX11_farthest_63 : vm_at cX11_farthest 63 (.invokevirtual 194) 3 66 := ⟨vm_row tbX11_farthest 33 rfl, rfl⟩
theorem dX11_farthest_66 : vm_at cX11_farthest 66 (.aload_n 0) 1 67 ∧ ((0 : Fin 4) : Nat) = 0 := ⟨⟨vm_row tbX11_farthest 34 rfl, rfl⟩, rfl⟩
theorem dX11_farthest_67 : vm_at cX11_farthest 67 (.getfield 58) 3 70 := ⟨vm_row tbX11_farthest 35 rfl, rfl⟩
theorem dX11_farthest_70 : vm_at cX11_farthest 70 (.iload_n 2) 1 71 ∧ ((2 : Fin 4) : Nat) = 2 := ⟨⟨vm_row tbX11_farthest 36 rfl, rfl⟩, rfl⟩
theorem dX11_farthest_71 : vm_at cX11_farthest 71 (.invokevirtual 194) 3 74 := ⟨vm_row tbX11_farthest 37 rfl, rfl⟩
theorem dX11_farthest_74 : vm_br cX11_farthest 74 (.if_icmp .le 5) 3 77 (5) 79 := ⟨vm_row tbX11_farthest 38 rfl, rfl, rfl⟩
theorem dX11_farthest_77 : vm_at cX11_farthest 77 (.iload_n 3) 1 78 ∧ ((3 : Fin 4) : Nat) = 3 := ⟨⟨vm_row tbX11_farthest 39 rfl, rfl⟩, rfl⟩
theorem dX11_farthest_78 : vm_at cX11_farthest 78 (.istore_n 2) 1 79 ∧ ((2 : Fin 4) : Nat) = 2 := ⟨⟨vm_row tbX11_farthest 40 rfl, rfl⟩, rfl⟩
theorem dX11_farthest_79 : vm_at cX11_farthest 79 (.iinc 3 1) 3 82 ∧ Int32.ofInt (1) = (1 : Int32) := ⟨⟨vm_row tbX11_farthest 41 rfl, rfl⟩, z_iconst_1⟩
theorem dX11_farthest_82 : vm_br cX11_farthest 82 (.goto (-35)) 3 85 (-35) 47 := ⟨vm_row tbX11_farthest 42 rfl, rfl, rfl⟩
theorem dX11_farthest_85 : vm_at cX11_farthest 85 (.iload_n 1) 1 86 ∧ ((1 : Fin 4) : Nat) = 1 := ⟨⟨vm_row tbX11_farthest 43 rfl, rfl⟩, rfl⟩
theorem dX11_farthest_86 : vm_br cX11_farthest 86 (.ifCond .ne 7) 3 89 (7) 93 := ⟨vm_row tbX11_farthest 44 rfl, rfl, rfl⟩
theorem dX11_farthest_89 : vm_at cX11_farthest 89 (.iload_n 2) 1 90 ∧ ((2 : Fin 4) : Nat) = 2 := ⟨⟨vm_row tbX11_farthest 45 rfl, rfl⟩, rfl⟩
theorem dX11_farthest_90 : vm_br cX11_farthest 90 (.goto 11) 3 93 (11) 101 := ⟨vm_row tbX11_farthest 46 rfl, rfl, rfl⟩
theorem dX11_farthest_93 : vm_at cX11_farthest 93 (.aload_n 0) 1 94 ∧ ((0 : Fin 4) : Nat) = 0 := ⟨⟨vm_row tbX11_farthest 47 rfl, rfl⟩, rfl⟩
theorem dX11_farthest_94 : vm_at cX11_farthest 94 (.getfield 58) 3 97 := ⟨vm_row tbX11_farthest 48 rfl, rfl⟩
theorem dX11_farthest_97 : vm_at cX11_farthest 97 (.iload_n 2) 1 98 ∧ ((2 : Fin 4) : Nat) = 2 := ⟨⟨vm_row tbX11_farthest 49 rfl, rfl⟩, rfl⟩
theorem dX11_farthest_98 : vm_at cX11_farthest 98 (.invokevirtual 194) 3 101 := ⟨vm_row tbX11_farthest 50 rfl, rfl⟩
theorem dX11_farthest_101 : vm_at cX11_farthest 101 (.ireturn) 1 102 := ⟨vm_row tbX11_farthest 51 rfl, rfl⟩
def tlX11_target : List (Nat × Instr × Nat) := [(0, .aload_n 0, 1), (1, .iload_n 1, 1), (2, .invokevirtual 188, 3), (5, .ifCond .ne 6, 3), (8, .ldc 97, 2), (10, .ireturn, 1), (11, .aload_n 0, 1), (12, .getfield 29, 3), (15, .getfield 120, 3), (18, .bipush 6, 2), (20, .if_icmp .lt 6, 3), (23, .ldc 102, 2), (25, .ireturn, 1), (26, .aload_n 0, 1), (27, .getfield 29, 3), (30, .getfield 209, 3), (33, .aload_n 0, 1), (34, .getfield 29, 3), (37, .getfield 120, 3), (40, .iload_n 1, 1), (41, .invokestatic 212, 3), (44, .aload_n 0, 1), (45, .getfield 29, 3), (48, .dup, 1), (49, .getfield 120, 3), (52, .iconst 1, 1), (53, .iadd, 1), (54, .putfield 120, 3), (57, .aload_n 0, 1), (58, .getfield 58, 3), (61, .invokevirtual 216, 3), (64, .aload_n 0, 1), (65, .getfield 29, 3), (68, .getfield 120, 3), (71, .ireturn, 1)]
theorem tbX11_target : vm_chk cX11_target tlX11_target = true := by decide +kernel
theorem dX11_target_0 : vm_at cX11_target 0 (.aload_n 0) 1 1 ∧ ((0 : Fin 4) : Nat) = 0 := ⟨⟨vm_row tbX11_target 0 rfl, rfl⟩, rfl⟩
theorem dX11_target_1 : vm_at cX11_target 1 (.iload_n 1) 1 2 ∧ ((1 : Fin 4) : Nat) = 1 := ⟨⟨vm_row tbX11_target 1 rfl, rfl⟩, rfl⟩
theorem dX11_target_2 : vm_at cX11_target 2 (.invokevirtual 188) 3 5 := ⟨vm_row tbX11_target 2 rfl, rfl⟩
theorem dX11_target_5 : vm_br cX11_target 5 (.ifCond .ne 6) 3 8 (6) 11 := ⟨vm_row tbX11_target 3 rfl, rfl, rfl⟩
theorem dX11_target_8 : vm_at cX11_target 8 (.ldc 97) 2 10 := ⟨vm_row tbX11_target 4 rfl, rfl⟩
theorem dX11_target_10 : vm_at cX11_target 10 (.ireturn) 1 11 := ⟨vm_row tbX11_target 5 rfl, rfl⟩
theorem dX11_target_11 : vm_at cX11_target 11 (.aload_n 0) 1 12 ∧ ((0 : Fin 4) : Nat) = 0 := ⟨⟨vm_row tbX11_target 6 rfl, rfl⟩, rfl⟩
theorem dX11_target_12 : vm_at cX11_target 12 (.getfield 29) 3 15 := ⟨vm_row tbX11_target 7 rfl, rfl⟩
theorem dX11_target_15 : vm_at cX11_target 15 (.getfield 120) 3 18 := ⟨vm_row tbX11_target 8 rfl, rfl⟩
theorem dX11_target_18 : vm_at cX11_target 18 (.bipush 6) 2 20 ∧ (Int8.ofInt (6)).toInt32 = (6 : Int32) := ⟨⟨vm_row tbX11_target 9 rfl, rfl⟩, z_bipush_6⟩
theorem dX11_target_20 : vm_br cX11_target 20 (.if_icmp .lt 6) 3 23 (6) 26 := ⟨vm_row tbX11_target 10 rfl, rfl, rfl⟩
theorem dX11_target_23 : vm_at cX11_target 23 (.ldc 102) 2 25 := ⟨vm_row tbX11_target 11 rfl, rfl⟩
theorem dX11_target_25 : vm_at cX11_target 25 (.ireturn) 1 26 := ⟨vm_row tbX11_target 12 rfl, rfl⟩
theorem dX11_target_26 : vm_at cX11_target 26 (.aload_n 0) 1 27 ∧ ((0 : Fin 4) : Nat) = 0 := ⟨⟨vm_row tbX11_target 13 rfl, rfl⟩, rfl⟩
theorem dX11_target_27 : vm_at cX11_target 27 (.getfield 29) 3 30 := ⟨vm_row tbX11_target 14 rfl, rfl⟩
theorem dX11_target_30 : vm_at cX11_target 30 (.getfield 209) 3 33 := ⟨vm_row tbX11_target 15 rfl, rfl⟩
theorem dX11_target_33 : vm_at cX11_target 33 (.aload_n 0) 1 34 ∧ ((0 : Fin 4) : Nat) = 0 := ⟨⟨vm_row tbX11_target 16 rfl, rfl⟩, rfl⟩
theorem dX11_target_34 : vm_at cX11_target 34 (.getfield 29) 3 37 := ⟨vm_row tbX11_target 17 rfl, rfl⟩
theorem dX11_target_37 : vm_at cX11_target 37 (.getfield 120) 3 40 := ⟨vm_row tbX11_target 18 rfl, rfl⟩
theorem dX11_target_40 : vm_at cX11_target 40 (.iload_n 1) 1 41 ∧ ((1 : Fin 4) : Nat) = 1 := ⟨⟨vm_row tbX11_target 19 rfl, rfl⟩, rfl⟩
theorem dX11_target_41 : vm_at cX11_target 41 (.invokestatic 212) 3 44 := ⟨vm_row tbX11_target 20 rfl, rfl⟩
theorem dX11_target_44 : vm_at cX11_target 44 (.aload_n 0) 1 45 ∧ ((0 : Fin 4) : Nat) = 0 := ⟨⟨vm_row tbX11_target 21 rfl, rfl⟩, rfl⟩
theorem dX11_target_45 : vm_at cX11_target 45 (.getfield 29) 3 48 := ⟨vm_row tbX11_target 22 rfl, rfl⟩
theorem dX11_target_48 : vm_at cX11_target 48 (.dup) 1 49 := ⟨vm_row tbX11_target 23 rfl, rfl⟩
theorem dX11_target_49 : vm_at cX11_target 49 (.getfield 120) 3 52 := ⟨vm_row tbX11_target 24 rfl, rfl⟩
theorem dX11_target_52 : vm_at cX11_target 52 (.iconst 1) 1 53 ∧ Int32.ofInt (1) = (1 : Int32) := ⟨⟨vm_row tbX11_target 25 rfl, rfl⟩, z_iconst_1⟩
theorem dX11_target_53 : vm_at cX11_target 53 (.iadd) 1 54 := ⟨vm_row tbX11_target 26 rfl, rfl⟩
theorem dX11_target_54 : vm_at cX11_target 54 (.putfield 120) 3 57 := ⟨vm_row tbX11_target 27 rfl, rfl⟩
theorem dX11_target_57 : vm_at cX11_target 57 (.aload_n 0) 1 58 ∧ ((0 : Fin 4) : Nat) = 0 := ⟨⟨vm_row tbX11_target 28 rfl, rfl⟩, rfl⟩
theorem dX11_target_58 : vm_at cX11_target 58 (.getfield 58) 3 61 := ⟨vm_row tbX11_target 29 rfl, rfl⟩
theorem dX11_target_61 : vm_at cX11_target 61 (.invokevirtual 216) 3 64 := ⟨vm_row tbX11_target 30 rfl, rfl⟩
theorem dX11_target_64 : vm_at cX11_target 64 (.aload_n 0) 1 65 ∧ ((0 : Fin 4) : Nat) = 0 := ⟨⟨vm_row tbX11_target 31 rfl, rfl⟩, rfl⟩
theorem dX11_target_65 : vm_at cX11_target 65 (.getfield 29) 3 68 := ⟨vm_row tbX11_target 32 rfl, rfl⟩
theorem dX11_target_68 : vm_at cX11_target 68 (.getfield 120) 3 71 := ⟨vm_row tbX11_target 33 rfl, rfl⟩
theorem dX11_target_71 : vm_at cX11_target 71 (.ireturn) 1 72 := ⟨vm_row tbX11_target 34 rfl, rfl⟩
def tlX11_targetAt : List (Nat × Instr × Nat) := [(0, .iload_n 1, 1), (1, .ifCond .lt 14, 3), (4, .iload_n 1, 1), (5, .aload_n 0, 1), (6, .getfield 29, 3), (9, .getfield 120, 3), (12, .if_icmp .lt 6, 3), (15, .ldc 166, 2), (17, .ireturn, 1), (18, .aload_n 0, 1), (19, .getfield 29, 3), (22, .getfield 209, 3), (25, .iload_n 1, 1), (26, .invokestatic 171, 3), (29, .ireturn, 1)]
theorem tbX11_targetAt : vm_chk cX11_targetAt tlX11_targetAt = true := by decide +kernel
theorem dX11_targetAt_0 : vm_at cX11_targetAt 0 (.iload_n 1) 1 1 ∧ ((1 : Fin 4) : Nat) = 1 := ⟨⟨vm_row tbX11_targetAt 0 rfl, rfl⟩, rfl⟩
theorem dX11_targetAt_1 : vm_br cX11_targetAt 1 (.ifCond .lt 14) 3 4 (14) 15 := ⟨vm_row tbX11_targetAt 1 rfl, rfl, rfl⟩
theorem dX11_targetAt_4 : vm_at cX11_targetAt 4 (.iload_n 1) 1 5 ∧ ((1 : Fin 4) : Nat) = 1 := ⟨⟨vm_row tbX11_targetAt 2 rfl, rfl⟩, rfl⟩
theorem dX11_targetAt_5 : vm_at cX11_targetAt 5 (.aload_n 0) 1 6 ∧ ((0 : Fin 4) : Nat) = 0 := ⟨⟨vm_row tbX11_targetAt 3 rfl, rfl⟩, rfl⟩
theorem dX11_targetAt_6 : vm_at cX11_targetAt 6 (.getfield 29) 3 9 := ⟨vm_row tbX11_targetAt 4 rfl, rfl⟩
theorem dX11_targetAt_9 : vm_at cX11_targetAt 9 (.getfield 120) 3 12 := ⟨vm_row tbX11_targetAt 5 rfl, rfl⟩
theorem dX11_targetAt_12 : vm_br cX11_targetAt 12 (.if_icmp .lt 6) 3 15 (6) 18 := ⟨vm_row tbX11_targetAt 6 rfl, rfl, rfl⟩
theorem dX11_targetAt_15 : vm_at cX11_targetAt 15 (.ldc 166) 2 17 := ⟨vm_row tbX11_targetAt 7 rfl, rfl⟩
theorem dX11_targetAt_17 : vm_at cX11_targetAt 17 (.ireturn) 1 18 := ⟨vm_row tbX11_targetAt 8 rfl, rfl⟩
theorem dX11_targetAt_18 : vm_at cX11_targetAt 18 (.aload_n 0) 1 19 ∧ ((0 : Fin 4) : Nat) = 0 := ⟨⟨vm_row tbX11_targetAt 9 rfl, rfl⟩, rfl⟩
theorem dX11_targetAt_19 : vm_at cX11_targetAt 19 (.getfield 29) 3 22 := ⟨vm_row tbX11_targetAt 10 rfl, rfl⟩
theorem dX11_targetAt_22 : vm_at cX11_targetAt 22 (.getfield 209) 3 25 := ⟨vm_row tbX11_targetAt 11 rfl, rfl⟩
theorem dX11_targetAt_25 : vm_at cX11_targetAt 25 (.iload_n 1) 1 26 ∧ ((1 : Fin 4) : Nat) = 1 := ⟨⟨vm_row tbX11_targetAt 12 rfl, rfl⟩, rfl⟩
theorem dX11_targetAt_26 : vm_at cX11_targetAt 26 (.invokestatic 171) 3 29 := ⟨vm_row tbX11_targetAt 13 rfl, rfl⟩
theorem dX11_targetAt_29 : vm_at cX11_targetAt 29 (.ireturn) 1 30 := ⟨vm_row tbX11_targetAt 14 rfl, rfl⟩
def tlX11_forget : List (Nat × Instr × Nat) := [(0, .aload_n 0, 1), (1, .getfield 29, 3), (4, .getfield 120, 3), (7, .istore_n 1, 1), (8, .aload_n 0, 1), (9, .getfield 29, 3), (12, .iconst 0, 1), (13, .putfield 120, 3), (16, .aload_n 0, 1), (17, .getfield 58, 3), (20, .invokevirtual 216, 3), (23, .iload_n 1, 1), (24, .ireturn, 1)]
theorem tbX11_forget : vm_chk cX11_forget tlX11_forget = true := by decide +kernel
theorem dX11_forget_0 : vm_at cX11_forget 0 (.aload_n 0) 1 1 ∧ ((0 : Fin 4) : Nat) = 0 := ⟨⟨vm_row tbX11_forget 0 rfl, rfl⟩, rfl⟩
theorem dX11_forget_1 : vm_at cX11_forget 1 (.getfield 29) 3 4 := ⟨vm_row tbX11_forget 1 rfl, rfl⟩
theorem dX11_forget_4 : vm_at cX11_forget 4 (.getfield 120) 3 7 := ⟨vm_row tbX11_forget 2 rfl, rfl⟩
theorem dX11_forget_7 : vm_at cX11_forget 7 (.istore_n 1) 1 8 ∧ ((1 : Fin 4) : Nat) = 1 := ⟨⟨vm_row tbX11_forget 3 rfl, rfl⟩, rfl⟩
theorem dX11_forget_8 : vm_at cX11_forget 8 (.aload_n 0) 1 9 ∧ ((0 : Fin 4) : Nat) = 0 := ⟨⟨vm_row tbX11_forget 4 rfl, rfl⟩, rfl⟩
theorem dX11_forget_9 : vm_at cX11_forget 9 (.getfield 29) 3 12 := ⟨vm_row tbX11_forget 5 rfl, rfl⟩
theorem dX11_forget_12 : vm_at cX11_forget 12 (.iconst 0) 1 13 ∧ Int32.ofInt (0) = (0 : Int32) := ⟨⟨vm_row tbX11_forget 6 rfl, rfl⟩, z_iconst_0⟩
theorem dX11_forget_13 : vm_at cX11_forget 13 (.putfield 120) 3 16 := ⟨vm_row tbX11_forget 7 rfl, rfl⟩
theorem dX11_forget_16 : vm_at cX11_forget 16 (.aload_n 0) 1 17 ∧ ((0 : Fin 4) : Nat) = 0 := ⟨⟨vm_row tbX11_forget 8 rfl, rfl⟩, rfl⟩
theorem dX11_forget_17 : vm_at cX11_forget 17 (.getfield 58) 3 20 := ⟨vm_row tbX11_forget 9 rfl, rfl⟩
theorem dX11_forget_20 : vm_at cX11_forget 20 (.invokevirtual 216) 3 23 := ⟨vm_row tbX11_forget 10 rfl, rfl⟩
theorem dX11_forget_23 : vm_at cX11_forget 23 (.iload_n 1) 1 24 ∧ ((1 : Fin 4) : Nat) = 1 := ⟨⟨vm_row tbX11_forget 11 rfl, rfl⟩, rfl⟩
theorem dX11_forget_24 : vm_at cX11_forget 24 (.ireturn) 1 25 := ⟨vm_row tbX11_forget 12 rfl, rfl⟩
def tlX11_more : List (Nat × Instr × Nat) := [(0, .iload_n 1, 1), (1, .ifCond .lt 8, 3), (4, .iload_n 1, 1), (5, .iconst 2, 1), (6, .if_icmp .le 6, 3), (9, .ldc 97, 2), (11, .ireturn, 1), (12, .aload_n 0, 1), (13, .getfield 19, 3), (16, .getfield 131, 3), (19, .ifCond .ne 6, 3), (22, .ldc 208, 2), (24, .ireturn, 1), (25, .aload_n 0, 1), (26, .getfield 58, 3), (29, .aload_n 0, 1), (30, .getfield 19, 3), (33, .aload_n 0, 1), (34, .getfield 29, 3), (37, .invokevirtual 219, 3), (40, .iload_n 1, 1), (41, .iconst 2, 1), (42, .if_icmp .ne 11, 3), (45, .aload_n 0, 1), (46, .getfield 58, 3), (49, .getfield 223, 3), (52, .ireturn, 1), (53, .iload_n 1, 1), (54, .ifCond .ne 13, 3), (57, .aload_n 0, 1), (58, .getfield 58, 3), (61, .getfield 226, 3), (64, .goto 10, 3), (67, .aload_n 0, 1), (68, .getfield 58, 3), (71, .getfield 229, 3), (74, .ireturn, 1)]
theorem tbX11_more : vm_chk cX11_more tlX11_more = true := by decide +kernel
theorem dX11_more_0 : vm_at cX11_more 0 (.iload_n 1) 1 1 ∧ ((1 : Fin 4) : Nat) = 1 := ⟨⟨vm_row tbX11_more 0 rfl, rfl⟩, rfl⟩
theorem dX11_more_1 : vm_br cX11_more 1 (.ifCond .lt 8) 3 4 (8) 9 := ⟨vm_row tbX11_more 1 rfl, rfl, rfl⟩
theorem dX11_more_4 : vm_at cX11_more 4 (.iload_n 1) 1 5 ∧ ((1 : Fin 4) : Nat) = 1 := ⟨⟨vm_row tbX11_more 2 rfl, rfl⟩, rfl⟩
theorem dX11_more_5 : vm_at cX11_more 5 (.iconst 2) 1 6 ∧ Int32.ofInt (2) = (2 : Int32) := ⟨⟨vm_row tbX11_more 3 rfl, rfl⟩, z_iconst_2⟩
theorem dX11_more_6 : vm_br cX11_more 6 (.if_icmp .le 6) 3 9 (6) 12 := ⟨vm_row tbX11_more 4 rfl, rfl, rfl⟩
theorem dX11_more_9 : vm_at cX11_more 9 (.ldc 97) 2 11 := ⟨vm_row tbX11_more 5 rfl, rfl⟩
theorem dX11_more_11 : vm_at cX11_more 11 (.ireturn) 1 12 := ⟨vm_row tbX11_more 6 rfl, rfl⟩
theorem dX11_more_12 : vm_at cX11_more 12 (.aload_n 0) 1 13 ∧ ((0 : Fin 4) : Nat) = 0 := ⟨⟨vm_row tbX11_more 7 rfl, rfl⟩, rfl⟩
theorem dX11_more_13 : vm_at cX11_more 13 (.getfield 19) 3 16 := ⟨vm_row tbX11_more 8 rfl, rfl⟩
theorem dX11_more_16 : vm_at cX11_more 16 (.getfield 131) 3 19 := ⟨vm_row tbX11_more 9 rfl, rfl⟩
theorem dX11_more_19 : vm_br cX11_more 19 (.ifCond .ne 6) 3 22 (6) 25 := ⟨vm_row tbX11_more 10 rfl, rfl, rfl⟩
theorem dX11_more_22 : vm_at cX11_more 22 (.ldc 208) 2 24 := ⟨vm_row tbX11_more 11 rfl, rfl⟩
theorem dX11_more_24 : vm_at cX11_more 24 (.ireturn) 1 25 := ⟨vm_row tbX11_more 12 rfl, rfl⟩
theorem dX11_more_25 : vm_at cX11_more 25 (.aload_n 0) 1 26 ∧ ((0 : Fin 4) : Nat) = 0 := ⟨⟨vm_row tbX11_more 13 rfl, rfl⟩, rfl⟩
theorem dX11_more_26 : vm_at cX11_more 26 (.getfield 58) 3 29 := ⟨vm_row tbX11_more 14 rfl, rfl⟩
theorem dX11_more_29 : vm_at cX11_more 29 (.aload_n 0) 1 30 ∧ ((0 : Fin 4) : Nat) = 0 := ⟨⟨vm_row tbX11_more 15 rfl, rfl⟩, rfl⟩
theorem dX11_more_30 : vm_at cX11_more 30 (.getfield 19) 3 33 := ⟨vm_row tbX11_more 16 rfl, rfl⟩
theorem dX11_more_33 : vm_at cX11_more 33 (.aload_n 0) 1 34 ∧ ((0 : Fin 4) : Nat) = 0 := ⟨⟨vm_row tbX11_more 17 rfl, rfl⟩, rfl⟩
theorem dX11_more_34 : vm_at cX11_more 34 (.getfield 29) 3 37 := ⟨vm_row tbX11_more 18 rfl, rfl⟩
theorem dX11_more_37 : vm_at cX11_more 37 (.invokevirtual 219) 3 40 := ⟨vm_row tbX11_more 19 rfl, rfl⟩
theorem dX11_more_40 : vm_at cX11_more 40 (.iload_n 1) 1 41 ∧ ((1 : Fin 4) : Nat) = 1 := ⟨⟨vm_row tbX11_more 20 rfl, rfl⟩, rfl⟩
theorem dX11_more_41 : vm_at cX11_more 41 (.iconst 2) 1 42 ∧ Int32.ofInt (2) = (2 : Int32) := ⟨⟨vm_row tbX11_more 21 rfl, rfl⟩, z_iconst_2⟩
theorem dX11_more_42 : vm_br cX11_more 42 (.if_icmp .ne 11) 3 45 (11) 53 := ⟨vm_row tbX11_more 22 rfl, rfl, rfl⟩
theorem dX11_more_45 : vm_at cX11_more 45 (.aload_n 0) 1 46 ∧ ((0 : Fin 4) : Nat) = 0 := ⟨⟨vm_row tbX11_more 23 rfl, rfl⟩, rfl⟩
theorem dX11_more_46 : vm_at cX11_more 46 (.getfield 58) 3 49 := ⟨vm_row tbX11_more 24 rfl, rfl⟩
theorem dX11_more_49 : vm_at cX11_more 49 (.getfield 223) 3 52 := ⟨vm_row tbX11_more 25 rfl, rfl⟩
theorem dX11_more_52 : vm_at cX11_more 52 (.ireturn) 1 53 := ⟨vm_row tbX11_more 26 rfl, rfl⟩
theorem dX11_more_53 : vm_at cX11_more 53 (.iload_n 1) 1 54 ∧ ((1 : Fin 4) : Nat) = 1 := ⟨⟨vm_row tbX11_more 27 rfl, rfl⟩, rfl⟩
theorem dX11_more_54 : vm_br cX11_more 54 (.ifCond .ne 13) 3 57 (13) 67 := ⟨vm_row tbX11_more 28 rfl, rfl, rfl⟩
theorem dX11_more_57 : vm_at cX11_more 57 (.aload_n 0) 1 58 ∧ ((0 : Fin 4) : Nat) = 0 := ⟨⟨vm_row tbX11_more 29 rfl, rfl⟩, rfl⟩
theorem dX11_more_58 : vm_at cX11_more 58 (.getfield 58) 3 61 := ⟨vm_row tbX11_more 30 rfl, rfl⟩
theorem dX11_more_61 : vm_at cX11_more 61 (.getfield 226) 3 64 := ⟨vm_row tbX11_more 31 rfl, rfl⟩
theorem dX11_more_64 : vm_br cX11_more 64 (.goto 10) 3 67 (10) 74 := ⟨vm_row tbX11_more 32 rfl, rfl, rfl⟩
theorem dX11_more_67 : vm_at cX11_more 67 (.aload_n 0) 1 68 ∧ ((0 : Fin 4) : Nat) = 0 := ⟨⟨vm_row tbX11_more 33 rfl, rfl⟩, rfl⟩
theorem dX11_more_68 : vm_at cX11_more 68 (.getfield 58) 3 71 := ⟨vm_row tbX11_more 34 rfl, rfl⟩
theorem dX11_more_71 : vm_at cX11_more 71 (.getfield 229) 3 74 := ⟨vm_row tbX11_more 35 rfl, rfl⟩
theorem dX11_more_74 : vm_at cX11_more 74 (.ireturn) 1 75 := ⟨vm_row tbX11_more 36 rfl, rfl⟩
def tlX11_list : List (Nat × Instr × Nat) := [(0, .aload_n 0, 1), (1, .getfield 72, 3), (4, .aload_n 0, 1), (5, .getfield 19, 3), (8, .aload_n 0, 1), (9, .getfield 29, 3), (12, .invokevirtual 232, 3), (15, .ireturn, 1)]
theorem tbX11_list : vm_chk cX11_list tlX11_list = true := by decide +kernel
theorem dX11_list_0 : vm_at cX11_list 0 (.aload_n 0) 1 1 ∧ ((0 : Fin 4) : Nat) = 0 := ⟨⟨vm_row tbX11_list 0 rfl, rfl⟩, rfl⟩
theorem dX11_list_1 : vm_at cX11_list 1 (.getfield 72) 3 4 := ⟨vm_row tbX11_list 1 rfl, rfl⟩
theorem dX11_list_4 : vm_at cX11_list 4 (.aload_n 0) 1 5 ∧ ((0 : Fin 4) : Nat) = 0 := ⟨⟨vm_row tbX11_list 2 rfl, rfl⟩, rfl⟩
theorem dX11_list_5 : vm_at cX11_list 5 (.getfield 19) 3 8 := ⟨vm_row tbX11_list 3 rfl, rfl⟩
theorem dX11_list_8 : vm_at cX11_list 8 (.aload_n 0) 1 9 ∧ ((0 : Fin 4) : Nat) = 0 := ⟨⟨vm_row tbX11_list 4 rfl, rfl⟩, rfl⟩
theorem dX11_list_9 : vm_at cX11_list 9 (.getfield 29) 3 12 := ⟨vm_row tbX11_list 5 rfl, rfl⟩
theorem dX11_list_12 : vm_at cX11_list 12 (.invokevirtual 232) 3 15 := ⟨vm_row tbX11_list 6 rfl, rfl⟩
theorem dX11_list_15 : vm_at cX11_list 15 (.ireturn) 1 16 := ⟨vm_row tbX11_list 7 rfl, rfl⟩
def tlX11_quick : List (Nat × Instr × Nat) := [(0, .iload_n 1, 1), (1, .ifCond .lt 21, 3), (4, .iload_n 1, 1), (5, .sipush 999, 3), (8, .if_icmp .gt 14, 3), (11, .iload_n 2, 1), (12, .ifCond .lt 10, 3), (15, .iload_n 2, 1), (16, .sipush 999, 3), (19, .if_icmp .le 6, 3), (22, .ldc 97, 2), (24, .ireturn, 1), (25, .aload_n 0, 1), (26, .getfield 58, 3), (29, .aload_n 0, 1), (30, .getfield 19, 3), (33, .aload_n 0, 1), (34, .getfield 29, 3), (37, .getfield 114, 3), (40, .invokevirtual 191, 3), (43, .iconst (-1), 1), (44, .istore_n 3, 1), (45, .iconst 0, 1), (46, .istore 4, 2), (48, .iload 4, 2), (50, .aload_n 0, 1), (51, .getfield 19, 3), (54, .getfield 131, 3), (57, .if_icmp .ge 47, 3), (60, .iload 4, 2), (62, .iload_n 1, 1), (63, .isub, 1), (64, .invokestatic 236, 3), (67, .iload_n 2, 1), (68, .if_icmp .gt 30, 3), (71, .aload_n 0, 1), (72, .getfield 58, 3), (75, .iload 4, 2), (77, .invokevirtual 194, 3), (80, .iconst (-1), 1), (81, .if_icmp .eq 17, 3), (84, .aload_n 0, 1), (85, .iload 4, 2), (87, .iload_n 3, 1), (88, .iload_n 1, 1), (89, .invokevirtual 241, 3), (92, .ifCond .eq 6, 3), (95, .iload 4, 2), (97, .istore_n 3, 1), (98, .iinc 4 1, 3), (101, .goto (-53), 3), (104, .iload_n 3, 1), (105, .ireturn, 1)]
theorem tbX11_quick : vm_chk cX11_quick tlX11_quick = true := by decide +kernel
theorem dX11_quick_0 : vm_at cX11_quick 0 (.iload_n 1) 1 1 ∧ ((1 : Fin 4) : Nat) = 1 := ⟨⟨vm_row tbX11_quick 0 rfl, rfl⟩, rfl⟩
theorem dX11_quick_1 : vm_br cX11_quick 1 (.ifCond .lt 21) 3 4 (21) 22 := ⟨vm_row tbX11_quick 1 rfl, rfl, rfl⟩
theorem dX11_quick_4 : vm_at cX11_quick 4 (.iload_n 1) 1 5 ∧ ((1 : Fin 4) : Nat) = 1 := ⟨⟨vm_row tbX11_quick 2 rfl, rfl⟩, rfl⟩
theorem dX11_quick_5 : vm_at cX11_quick 5 (.sipush 999) 3 8 ∧ (Int16.ofInt (999)).toInt32 = (999 : Int32) := ⟨⟨vm_row tbX11_quick 3 rfl, rfl⟩, z_sipush_999⟩
theorem dX11_quick_8 : vm_br cX11_quick 8 (.if_icmp .gt 14) 3 11 (14) 22 := ⟨vm_row tbX11_quick 4 rfl, rfl, rfl⟩
theorem dX11_quick_11 : vm_at cX11_quick 11 (.iload_n 2) 1 12 ∧ ((2 : Fin 4) : Nat) = 2 := ⟨⟨vm_row tbX11_quick 5 rfl, rfl⟩, rfl⟩
theorem dX11_quick_12 : vm_br cX11_quick 12 (.ifCond .lt 10) 3 15 (10) 22 := ⟨vm_row tbX11_quick 6 rfl, rfl, rfl⟩
theorem dX11_quick_15 : vm_at cX11_quick 15 (.iload_n 2) 1 16 ∧ ((2 : Fin 4) : Nat) = 2 := ⟨⟨vm_row tbX11_quick 7 rfl, rfl⟩, rfl⟩
theorem dX11_quick_16 : vm_at cX11_quick 16 (.sipush 999) 3 19 ∧ (Int16.ofInt (999)).toInt32 = (999 : Int32) := ⟨⟨vm_row tbX11_quick 8 rfl, rfl⟩, z_sipush_999⟩
theorem dX11_quick_19 : vm_br cX11_quick 19 (.if_icmp .le 6) 3 22 (6) 25 := ⟨vm_row tbX11_quick 9 rfl, rfl, rfl⟩
theorem dX11_quick_22 : vm_at cX11_quick 22 (.ldc 97) 2 24 := ⟨vm_row tbX11_quick 10 rfl, rfl⟩
theorem dX11_quick_24 : vm_at cX11_quick 24 (.ireturn) 1 25 := ⟨vm_row tbX11_quick 11 rfl, rfl⟩
theorem dX11_quick_25 : vm_at cX11_quick 25 (.aload_n 0) 1 26 ∧ ((0 : Fin 4) : Nat) = 0 := ⟨⟨vm_row tbX11_quick 12 rfl, rfl⟩, rfl⟩
theorem dX11_quick_26 : vm_at cX11_quick 26 (.getfield 58) 3 29 := ⟨vm_row tbX11_quick 13 rfl, rfl⟩
theorem dX11_quick_29 : vm_at cX11_quick 29 (.aload_n 0) 1 30 ∧ ((0 : Fin 4) : Nat) = 0 := ⟨⟨vm_row tbX11_quick 14 rfl, rfl⟩, rfl⟩
theorem dX11_quick_30 : vm_at cX11_quick 30 (.getfield 19) 3 33 := ⟨vm_row tbX11_quick 15 rfl, rfl⟩
theorem dX11_quick_33 : vm_at cX11_quick 33 (.aload_n 0) 1 34 ∧ ((0 : Fin 4) : Nat) = 0 := ⟨⟨vm_row tbX11_quick 16 rfl, rfl⟩, rfl⟩
theorem dX11_quick_34 : vm_at cX11_quick 34 (.getfield 29) 3 37 := ⟨vm_row tbX11_quick 17 rfl, rfl⟩
theorem dX11_quick_37 : vm_at cX11_quick 37 (.getfield 114) 3 40 := ⟨vm_row tbX11_quick 18 rfl, rfl⟩
theorem dX11_quick_40 : vm_at cX11_quick 40 (.invokevirtual 191) 3 43 := ⟨vm_row tbX11_quick 19 rfl, rfl⟩
theorem dX11_quick_43 : vm_at cX11_quick 43 (.iconst (-1)) 1 44 ∧ Int32.ofInt (-1) = (-1 : Int32) := ⟨⟨vm_row tbX11_quick 20 rfl, rfl⟩, z_iconst_m1⟩
theorem dX11_quick_44 : vm_at cX11_quick 44 (.istore_n 3) 1 45 ∧ ((3 : Fin 4) : Nat) = 3 := ⟨⟨vm_row tbX11_quick 21 rfl, rfl⟩, rfl⟩
theorem dX11_quick_45 : vm_at cX11_quick 45 (.iconst 0) 1 46 ∧ Int32.ofInt (0) = (0 : Int32) := ⟨⟨vm_row tbX11_quick 22 rfl, rfl⟩, z_iconst_0⟩
theorem dX11_quick_46 : vm_at cX11_quick 46 (.istore 4) 2 48 := ⟨vm_row tbX11_quick 23 rfl, rfl⟩
theorem dX11_quick_48 : vm_at cX11_quick 48 (.iload 4) 2 50 := ⟨vm_row tbX11_quick 24 rfl, rfl⟩
theorem dX11_quick_50 : vm_at cX11_quick 50 (.aload_n 0) 1 51 ∧ ((0 : Fin 4) : Nat) = 0 := ⟨⟨vm_row tbX11_quick 25 rfl, rfl⟩, rfl⟩
theorem dX11_quick_51 : vm_at cX11_quick 51 (.getfield 19) 3 54 := ⟨vm_row tbX11_quick 26 rfl, rfl⟩
theorem dX11_quick_54 : vm_at cX11_quick 54 (.getfield 131) 3 57 := ⟨vm_row tbX11_quick 27 rfl, rfl⟩
theorem dX11_quick_57 : vm_br cX11_quick 57 (.if_icmp .ge 47) 3 60 (47) 104 := ⟨vm_row tbX11_quick 28 rfl, rfl, rfl⟩
theorem dX11_quick_60 : vm_at cX11_quick 60 (.iload 4) 2 62 := ⟨vm_row tbX11_quick 29 rfl, rfl⟩
theorem dX11_quick_62 : vm_at cX11_quick 62 (.iload_n 1) 1 63 ∧ ((1 : Fin 4) : Nat) = 1 := ⟨⟨vm_row tbX11_quick 30 rfl, rfl⟩, rfl⟩
theorem dX11_quick_63 : vm_at cX11_quick 63 (.isub) 1 64 := ⟨vm_row tbX11_quick 31 rfl, rfl⟩
theorem dX11_quick_64 : vm_at cX11_quick 64 (.invokestatic 236) 3 67 := ⟨vm_row tbX11_quick 32 rfl, rfl⟩
theorem dX11_quick_67 : vm_at cX11_quick 67 (.iload_n 2) 1 68 ∧ ((2 : Fin 4) : Nat) = 2 := ⟨⟨vm_row tbX11_quick 33 rfl, rfl⟩, rfl⟩
theorem dX11_quick_68 : vm_br cX11_quick 68 (.if_icmp .gt 30) 3 71 (30) 98 := ⟨vm_row tbX11_quick 34 rfl, rfl, rfl⟩
theorem dX11_quick_71 : vm_at cX11_quick 71 (.aload_n 0) 1 72 ∧ ((0 : Fin 4) : Nat) = 0 := ⟨⟨vm_row tbX11_quick 35 rfl, rfl⟩, rfl⟩
theorem dX11_quick_72 : vm_at cX11_quick 72 (.getfield 58) 3 75 := ⟨vm_row tbX11_quick 36 rfl, rfl⟩
theorem dX11_quick_75 : vm_at cX11_quick 75 (.iload 4) 2 77 := ⟨vm_row tbX11_quick 37 rfl, rfl⟩
theorem dX11_quick_77 : vm_at cX11_quick 77 (.invokevirtual 194) 3 80 := ⟨vm_row tbX11_quick 38 rfl, rfl⟩
theorem dX11_quick_80 : vm_at cX11_quick 80 (.iconst (-1)) 1 81 ∧ Int32.ofInt (-1) = (-1 : Int32) := ⟨⟨vm_row tbX11_quick 39 rfl, rfl⟩, z_iconst_m1⟩
theorem dX11_quick_81 : vm_br cX11_quick 81 (.if_icmp .eq 17) 3 84 (17) 98 := ⟨vm_row tbX11_quick 40 rfl, rfl, rfl⟩
theorem dX11_quick_84 : vm_at cX11_quick 84 (.aload_n 0) 1 85 ∧ ((0 : Fin 4) : Nat) = 0 := ⟨⟨vm_row tbX11_quick 41 rfl, rfl⟩, rfl⟩
theorem dX11_quick_85 : vm_at cX11_quick 85 (.iload 4) 2 87 := ⟨vm_row tbX11_quick 42 rfl, rfl⟩
theorem dX11_quick_87 : vm_at cX11_quick 87 (.iload_n 3) 1 88 ∧ ((3 : Fin 4) : Nat) = 3 := ⟨⟨vm_row tbX11_quick 43 rfl, rfl⟩, rfl⟩
theorem dX11_quick_88 : vm_at cX11_quick 88 (.iload_n 1) 1 89 ∧ ((1 : Fin 4) : Nat) = 1 := ⟨⟨vm_row tbX11_quick 44 rfl, rfl⟩, rfl⟩
theorem dX11_quick_89 : vm_at cX11_quick 89 (.invokevirtual 241) 3 92 := ⟨vm_row tbX11_quick 45 rfl, rfl⟩
theorem dX11_quick_92 : vm_br cX11_quick 92 (.ifCond .eq 6) 3 95 (6) 98 := ⟨vm_row tbX11_quick 46 rfl, rfl, rfl⟩
theorem dX11_quick_95 : vm_at cX11_quick 95 (.iload 4) 2 97 := ⟨vm_row tbX11_quick 47 rfl, rfl⟩
theorem dX11_quick_97 : vm_at cX11_quick 97 (.istore_n 3) 1 98 ∧ ((3 : Fin 4) : Nat) = 3 := ⟨⟨vm_row tbX11_quick 48 rfl, rfl⟩, rfl⟩
theorem dX11_quick_98 : vm_at cX11_quick 98 (.iinc 4 1) 3 101 ∧ Int32.ofInt (1) = (1 : Int32) := ⟨⟨vm_row tbX11_quick 49 rfl, rfl⟩, z_iconst_1⟩
theorem dX11_quick_101 : vm_br cX11_quick 101 (.goto (-53)) 3 104 (-53) 48 := ⟨vm_row tbX11_quick 50 rfl, rfl, rfl⟩
theorem dX11_quick_104 : vm_at cX11_quick 104 (.iload_n 3) 1 105 ∧ ((3 : Fin 4) : Nat) = 3 := ⟨⟨vm_row tbX11_quick 51 rfl, rfl⟩, rfl⟩
theorem dX11_quick_105 : vm_at cX11_quick 105 (.ireturn) 1 106 := ⟨vm_row tbX11_quick 52 rfl, rfl⟩
def tlX11_isQuicker : List (Nat × Instr × Nat) := [(0, .iload_n 2, 1), (1, .iconst (-1), 1), (2, .if_icmp .eq 22, 3), (5, .aload_n 0, 1), (6, .getfield 58, 3), (9, .iload_n 1, 1), (10, .invokevirtual 194, 3), (13, .aload_n 0, 1), (14, .getfield 58, 3), (17, .iload_n 2, 1), (18, .invokevirtual 194, 3), (21, .if_icmp .eq 33, 3), (24, .iload_n 2, 1), (25, .iconst (-1), 1), (26, .if_icmp .eq 22, 3), (29, .aload_n 0, 1), (30, .getfield 58, 3), (33, .iload_n 1, 1), (34, .invokevirtual 194, 3), (37, .aload_n 0, 1), (38, .getfield 58, 3), (41, .iload_n 2, 1), (42, .invokevirtual 194, 3), (45, .if_icmp .ge 7, 3), (48, .iconst 1, 1), (49, .goto 4, 3), (52, .iconst 0, 1), (53, .ireturn, 1), (54, .iload_n 1, 1), (55, .iload_n 3, 1), (56, .isub, 1), (57, .invokestatic 236, 3), (60, .iload_n 2, 1), (61, .iload_n 3, 1), (62, .isub, 1), (63, .invokestatic 236, 3), (66, .if_icmp .ge 7, 3), (69, .iconst 1, 1), (70, .goto 4, 3), (73, .iconst 0, 1), (74, .ireturn, 1)]
theorem tbX11_isQuicker : vm_chk cX11_isQuicker tlX11_isQuicker = true := by decide +kernel
theorem dX11_isQuicker_0 : vm_at cX11_isQuicker 0 (.iload_n 2) 1 1 ∧ ((2 : Fin 4) : Nat) = 2 := ⟨⟨vm_row tbX11_isQuicker 0 rfl, rfl⟩, rfl⟩
theorem dX11_isQuicker_1 : vm_at cX11_isQuicker 1 (.iconst (-1)) 1 2 ∧ Int32.ofInt (-1) = (-1 : Int32) := ⟨⟨vm_row tbX11_isQuicker 1 rfl, rfl⟩, z_iconst_m1⟩
theorem dX11_isQuicker_2 : vm_br cX11_isQuicker 2 (.if_icmp .eq 22) 3 5 (22) 24 := ⟨vm_row tbX11_isQuicker 2 rfl, rfl, rfl⟩
theorem dX11_isQuicker_5 : vm_at cX11_isQuicker 5 (.aload_n 0) 1 6 ∧ ((0 : Fin 4) : Nat) = 0 := ⟨⟨vm_row tbX11_isQuicker 3 rfl, rfl⟩, rfl⟩
theorem dX11_isQuicker_6 : vm_at cX11_isQuicker 6 (.getfield 58) 3 9 := ⟨vm_row tbX11_isQuicker 4 rfl, rfl⟩
theorem dX11_isQuicker_9 : vm_at cX11_isQuicker 9 (.iload_n 1) 1 10 ∧ ((1 : Fin 4) : Nat) = 1 := ⟨⟨vm_row tbX11_isQuicker 5 rfl, rfl⟩, rfl⟩
theorem dX11_isQuicker_10 : vm_at cX11_isQuicker 10 (.invokevirtual 194) 3 13 := ⟨vm_row tbX11_isQuicker 6 rfl, rfl⟩
theorem dX11_isQuicker_13 : vm_at cX11_isQuicker 13 (.aload_n 0) 1 14 ∧ ((0 : Fin 4) : Nat) = 0 := ⟨⟨vm_row tbX11_isQuicker 7 rfl, rfl⟩, rfl⟩
theorem dX11_isQuicker_14 : vm_at cX11_isQuicker 14 (.getfield 58) 3 17 := ⟨vm_row tbX11_isQuicker 8 rfl, rfl⟩
theorem dX11_isQuicker_17 : vm_at cX11_isQuicker 17 (.iload_n 2) 1 18 ∧ ((2 : Fin 4) : Nat) = 2 := ⟨⟨vm_row tbX11_isQuicker 9 rfl, rfl⟩, rfl⟩
theorem dX11_isQuicker_18 : vm_at cX11_isQuicker 18 (.invokevirtual 194) 3 21 := ⟨vm_row tbX11_isQuicker 10 rfl, rfl⟩
theorem dX11_isQuicker_21 : vm_br cX11_isQuicker 21 (.if_icmp .eq 33) 3 24 (33) 54 := ⟨vm_row tbX11_isQuicker 11 rfl, rfl, rfl⟩
theorem dX11_isQuicker_24 : vm_at cX11_isQuicker 24 (.iload_n 2) 1 25 ∧ ((2 : Fin 4) : Nat) = 2 := ⟨⟨vm_row tbX11_isQuicker 12 rfl, rfl⟩, rfl⟩
theorem dX11_isQuicker_25 : vm_at cX11_isQuicker 25 (.iconst (-1)) 1 26 ∧ Int32.ofInt (-1) = (-1 : Int32) := ⟨⟨vm_row tbX11_isQuicker 13 rfl, rfl⟩, z_iconst_m1⟩
theorem dX11_isQuicker_26 : vm_br cX11_isQuicker 26 (.if_icmp .eq 22) 3 29 (22) 48 := ⟨vm_row tbX11_isQuicker 14 rfl, rfl, rfl⟩
theorem dX11_isQuicker_29 : vm_at cX11_isQuicker 29 (.aload_n 0) 1 30 ∧ ((0 : Fin 4) : Nat) = 0 := ⟨⟨vm_row tbX11_isQuicker 15 rfl, rfl⟩, rfl⟩
theorem dX11_isQuicker_30 : vm_at cX11_isQuicker 30 (.getfield 58) 3 33 := ⟨vm_row tbX11_isQuicker 16 rfl, rfl⟩
theorem dX11_isQuicker_33 : vm_at cX11_isQuicker 33 (.iload_n 1) 1 34 ∧ ((1 : Fin 4) : Nat) = 1 := ⟨⟨vm_row tbX11_isQuicker 17 rfl, rfl⟩, rfl⟩
theorem dX11_isQuicker_34 : vm_at cX11_isQuicker 34 (.invokevirtual 194) 3 37 := ⟨vm_row tbX11_isQuicker 18 rfl, rfl⟩
theorem dX11_isQuicker_37 : vm_at cX11_isQuicker 37 (.aload_n 0) 1 38 ∧ ((0 : Fin 4) : Nat) = 0 := ⟨⟨vm_row tbX11_isQuicker 19 rfl, rfl⟩, rfl⟩
theorem dX11_isQuicker_38 : vm_at cX11_isQuicker 38 (.getfield 58) 3 41 := ⟨vm_row tbX11_isQuicker 20 rfl, rfl⟩
theorem dX11_isQuicker_41 : vm_at cX11_isQuicker 41 (.iload_n 2) 1 42 ∧ ((2 : Fin 4) : Nat) = 2 := ⟨⟨vm_row tbX11_isQuicker 21 rfl, rfl⟩, rfl⟩
theorem dX11_isQuicker_42 : vm_at cX11_isQuicker 42 (.invokevirtual 194) 3 45 := ⟨vm_row tbX11_isQuicker 22 rfl, rfl⟩
theorem dX11_isQuicker_45 : vm_br cX11_isQuicker 45 (.if_icmp .ge 7) 3 48 (7) 52 := ⟨vm_row tbX11_isQuicker 23 rfl, rfl, rfl⟩
theorem dX11_isQuicker_48 : vm_at cX11_isQuicker 48 (.iconst 1) 1 49 ∧ Int32.ofInt (1) = (1 : Int32) := ⟨⟨vm_row tbX11_isQuicker 24 rfl, rfl⟩, z_iconst_1⟩
theorem dX11_isQuicker_49 : vm_br cX11_isQuicker 49 (.goto 4) 3 52 (4) 53 := ⟨vm_row tbX11_isQuicker 25 rfl, rfl, rfl⟩
theorem dX11_isQuicker_52 : vm_at cX11_isQuicker 52 (.iconst 0) 1 53 ∧ Int32.ofInt (0) = (0 : Int32) := ⟨⟨vm_row tbX11_isQuicker 26 rfl, rfl⟩, z_iconst_0⟩
theorem dX11_isQuicker_53 : vm_at cX11_isQuicker 53 (.ireturn) 1 54 := ⟨vm_row tbX11_isQuicker 27 rfl, rfl⟩
theorem dX11_isQuicker_54 : vm_at cX11_isQuicker 54 (.iload_n 1) 1 55 ∧ ((1 : Fin 4) : Nat) = 1 := ⟨⟨vm_row tbX11_isQuicker 28 rfl, rfl⟩, rfl⟩
theorem dX11_isQuicker_55 : vm_at cX11_isQuicker 55 (.iload_n 3) 1 56 ∧ ((3 : Fin 4) : Nat) = 3 := ⟨⟨vm_row tbX11_isQuicker 29 rfl, rfl⟩, rfl⟩
theorem dX11_isQuicker_56 : vm_at cX11_isQuicker 56 (.isub) 1 57 := ⟨vm_row tbX11_isQuicker 30 rfl, rfl⟩
theorem dX11_isQuicker_57 : vm_at cX11_isQuicker 57 (.invokestatic 236) 3 60 := ⟨vm_row tbX11_isQuicker 31 rfl, rfl⟩
theorem dX11_isQuicker_60 : vm_at cX11_isQuicker 60 (.iload_n 2) 1 61 ∧ ((2 : Fin 4) : Nat) = 2 := ⟨⟨vm_row tbX11_isQuicker 32 rfl, rfl⟩, rfl⟩
theorem dX11_isQuicker_61 : vm_at cX11_isQuicker 61 (.iload_n 3) 1 62 ∧ ((3 : Fin 4) : Nat) = 3 := ⟨⟨vm_row tbX11_isQuicker 33 rfl, rfl⟩, rfl⟩
theorem dX11_isQuicker_62 : vm_at cX11_isQuicker 62 (.isub) 1 63 := ⟨vm_row tbX11_isQuicker 34 rfl, rfl⟩
theorem dX11_isQuicker_63 : vm_at cX11_isQuicker 63 (.invokestatic 236) 3 66 := ⟨vm_row tbX11_isQuicker 35 rfl, rfl⟩
theorem dX11_isQuicker_66 : vm_br cX11_isQuicker 66 (.if_icmp .ge 7) 3 69 (7) 73 := ⟨vm_row tbX11_isQuicker 36 rfl, rfl, rfl⟩
theorem dX11_isQuicker_69 : vm_at cX11_isQuicker 69 (.iconst 1) 1 70 ∧ Int32.ofInt (1) = (1 : Int32) := ⟨⟨vm_row tbX11_isQuicker 37 rfl, rfl⟩, z_iconst_1⟩
theorem dX11_isQuicker_70 : vm_br cX11_isQuicker 70 (.goto 4) 3 73 (4) 74 := ⟨vm_row tbX11_isQuicker 38 rfl, rfl, rfl⟩
theorem dX11_isQuicker_73 : vm_at cX11_isQuicker 73 (.iconst 0) 1 74 ∧ Int32.ofInt (0) = (0 : Int32) := ⟨⟨vm_row tbX11_isQuicker 39 rfl, rfl⟩, z_iconst_0⟩
theorem dX11_isQuicker_74 : vm_at cX11_isQuicker 74 (.ireturn) 1 75 := ⟨vm_row tbX11_isQuicker 40 rfl, rfl⟩
def tlX11_struck : List (Nat × Instr × Nat) := [(0, .iload_n 1, 1), (1, .ifCond .lt 26, 3), (4, .iload_n 1, 1), (5, .bipush 8, 2), (7, .if_icmp .gt 20, 3), (10, .aload_n 0, 1), (11, .iload_n 2, 1), (12, .invokevirtual 188, 3), (15, .ifCond .eq 12, 3), (18, .iload_n 3, 1), (19, .ifCond .lt 8, 3), (22, .iload_n 3, 1), (23, .iconst 1, 1), (24, .if_icmp .le 6, 3), (27, .ldc 97, 2), (29, .ireturn, 1), (30, .aload_n 0, 1), (31, .getfield 79, 3), (34, .aload_n 0, 1), (35, .getfield 19, 3), (38, .aload_n 0, 1), (39, .getfield 29, 3), (42, .getfield 114, 3), (45, .iload_n 1, 1), (46, .iload_n 2, 1), (47, .invokevirtual 245, 3), (50, .iload_n 3, 1), (51, .ifCond .ne 13, 3), (54, .aload_n 0, 1), (55, .getfield 79, 3), (58, .getfield 249, 3), (61, .goto 10, 3), (64, .aload_n 0, 1), (65, .getfield 79, 3), (68, .getfield 252, 3), (71, .ireturn, 1)]
theorem tbX11_struck : vm_chk cX11_struck tlX11_struck = true := by decide +kernel
theorem dX11_struck_0 : vm_at cX11_struck 0 (.iload_n 1) 1 1 ∧ ((1 : Fin 4) : Nat) = 1 := ⟨⟨vm_row tbX11_struck 0 rfl, rfl⟩, rfl⟩
theorem dX11_struck_1 : vm_br cX11_struck 1 (.ifCond .lt 26) 3 4 (26) 27 := ⟨vm_row tbX11_struck 1 rfl, rfl, rfl⟩
theorem dX11_struck_4 : vm_at cX11_struck 4 (.iload_n 1) 1 5 ∧ ((1 : Fin 4) : Nat) = 1 := ⟨⟨vm_row tbX11_struck 2 rfl, rfl⟩, rfl⟩
theorem dX11_struck_5 : vm_at cX11_struck 5 (.bipush 8) 2 7 ∧ (Int8.ofInt (8)).toInt32 = (8 : Int32) := ⟨⟨vm_row tbX11_struck 3 rfl, rfl⟩, z_bipush_8⟩
theorem dX11_struck_7 : vm_br cX11_struck 7 (.if_icmp .gt 20) 3 10 (20) 27 := ⟨vm_row tbX11_struck 4 rfl, rfl, rfl⟩
theorem dX11_struck_10 : vm_at cX11_struck 10 (.aload_n 0) 1 11 ∧ ((0 : Fin 4) : Nat) = 0 := ⟨⟨vm_row tbX11_struck 5 rfl, rfl⟩, rfl⟩
theorem dX11_struck_11 : vm_at cX11_struck 11 (.iload_n 2) 1 12 ∧ ((2 : Fin 4) : Nat) = 2 := ⟨⟨vm_row tbX11_struck 6 rfl, rfl⟩, rfl⟩
theorem dX11_struck_12 : vm_at cX11_struck 12 (.invokevirtual 188) 3 15 := ⟨vm_row tbX11_struck 7 rfl, rfl⟩
theorem dX11_struck_15 : vm_br cX11_struck 15 (.ifCond .eq 12) 3 18 (12) 27 := ⟨vm_row tbX11_struck 8 rfl, rfl, rfl⟩
theorem dX11_struck_18 : vm_at cX11_struck 18 (.iload_n 3) 1 19 ∧ ((3 : Fin 4) : Nat) = 3 := ⟨⟨vm_row tbX11_struck 9 rfl, rfl⟩, rfl⟩
theorem dX11_struck_19 : vm_br cX11_struck 19 (.ifCond .lt 8) 3 22 (8) 27 := ⟨vm_row tbX11_struck 10 rfl, rfl, rfl⟩
theorem dX11_struck_22 : vm_at cX11_struck 22 (.iload_n 3) 1 23 ∧ ((3 : Fin 4) : Nat) = 3 := ⟨⟨vm_row tbX11_struck 11 rfl, rfl⟩, rfl⟩
theorem dX11_struck_23 : vm_at cX11_struck 23 (.iconst 1) 1 24 ∧ Int32.ofInt (1) = (1 : Int32) := ⟨⟨vm_row tbX11_struck 12 rfl, rfl⟩, z_iconst_1⟩
theorem dX11_struck_24 : vm_br cX11_struck 24 (.if_icmp .le 6) 3 27 (6) 30 := ⟨vm_row tbX11_struck 13 rfl, rfl, rfl⟩
theorem dX11_struck_27 : vm_at cX11_struck 27 (.ldc 97) 2 29 := ⟨vm_row tbX11_struck 14 rfl, rfl⟩
theorem dX11_struck_29 : vm_at cX11_struck 29 (.ireturn) 1 30 := ⟨vm_row tbX11_struck 15 rfl, rfl⟩
theorem dX11_struck_30 : vm_at cX11_struck 30 (.aload_n 0) 1 31 ∧ ((0 : Fin 4) : Nat) = 0 := ⟨⟨vm_row tbX11_struck 16 rfl, rfl⟩, rfl⟩
theorem dX11_struck_31 : vm_at cX11_struck 31 (.getfield 79) 3 34 := ⟨vm_row tbX11_struck 17 rfl, rfl⟩
theorem dX11_struck_34 : vm_at cX11_struck 34 (.aload_n 0) 1 35 ∧ ((0 : Fin 4) : Nat) = 0 := ⟨⟨vm_row tbX11_struck 18 rfl, rfl⟩, rfl⟩
theorem dX11_struck_35 : vm_at cX11_struck 35 (.getfield 19) 3 38 := ⟨vm_row tbX11_struck 19 rfl, rfl⟩
theorem dX11_struck_38 : vm_at cX11_struck 38 (.aload_n 0) 1 39 ∧ ((0 : Fin 4) : Nat) = 0 := ⟨⟨vm_row tbX11_struck 20 rfl, rfl⟩, rfl⟩
theorem dX11_struck_39 : vm_at cX11_struck 39 (.getfield 29) 3 42 := ⟨vm_row tbX11_struck 21 rfl, rfl⟩
theorem dX11_struck_42 : vm_at cX11_struck 42 (.getfield 114) 3 45 := ⟨vm_row tbX11_struck 22 rfl, rfl⟩
theorem dX11_struck_45 : vm_at cX11_struck 45 (.iload_n 1) 1 46 ∧ ((1 : Fin 4) : Nat) = 1 := ⟨⟨vm_row tbX11_struck 23 rfl, rfl⟩, rfl⟩
theorem dX11_struck_46 : vm_at cX11_struck 46 (.iload_n 2) 1 47 ∧ ((2 : Fin 4) : Nat) = 2 := ⟨⟨vm_row tbX11_struck 24 rfl, rfl⟩, rfl⟩
theorem dX11_struck_47 : vm_at cX11_struck 47 (.invokevirtual 245) 3 50 := ⟨vm_row tbX11_struck 25 rfl, rfl⟩
theorem dX11_struck_50 : vm_at cX11_struck 50 (.iload_n 3) 1 51 ∧ ((3 : Fin 4) : Nat) = 3 := ⟨⟨vm_row tbX11_struck 26 rfl, rfl⟩, rfl⟩
theorem dX11_struck_51 : vm_br cX11_struck 51 (.ifCond .ne 13) 3 54 (13) 64 := ⟨vm_row tbX11_struck 27 rfl, rfl, rfl⟩
theorem dX11_struck_54 : vm_at cX11_struck 54 (.aload_n 0) 1 55 ∧ ((0 : Fin 4) : Nat) = 0 := ⟨⟨vm_row tbX11_struck 28 rfl, rfl⟩, rfl⟩
theorem dX11_struck_55 : vm_at cX11_struck 55 (.getfield 79) 3 58 := ⟨vm_row tbX11_struck 29 rfl, rfl⟩
theorem dX11_struck_58 : vm_at cX11_struck 58 (.getfield 249) 3 61 := ⟨vm_row tbX11_struck 30 rfl, rfl⟩
theorem dX11_struck_61 : vm_br cX11_struck 61 (.goto 10) 3 64 (10) 71 := ⟨vm_row tbX11_struck 31 rfl, rfl, rfl⟩
theorem dX11_struck_64 : vm_at cX11_struck 64 (.aload_n 0) 1 65 ∧ ((0 : Fin 4) : Nat) = 0 := ⟨⟨vm_row tbX11_struck 32 rfl, rfl⟩, rfl⟩
theorem dX11_struck_65 : vm_at cX11_struck 65 (.getfield 79) 3 68 := ⟨vm_row tbX11_struck 33 rfl, rfl⟩
theorem dX11_struck_68 : vm_at cX11_struck 68 (.getfield 252) 3 71 := ⟨vm_row tbX11_struck 34 rfl, rfl⟩
theorem dX11_struck_71 : vm_at cX11_struck 71 (.ireturn) 1 72 := ⟨vm_row tbX11_struck 35 rfl, rfl⟩
def tlX11_lost : List (Nat × Instr × Nat) := [(0, .iload_n 1, 1), (1, .iconst 1, 1), (2, .aload_n 0, 1), (3, .getfield 19, 3), (6, .getfield 146, 3), (9, .ishl, 1), (10, .iconst 1, 1), (11, .isub, 1), (12, .iconst (-1), 1), (13, .ixor, 1), (14, .iand, 1), (15, .ifCond .eq 6, 3), (18, .ldc 166, 2), (20, .ireturn, 1), (21, .iload_n 1, 1), (22, .invokestatic 255, 3), (25, .iconst 2, 1), (26, .if_icmp .ge 6, 3), (29, .ldc 97, 2), (31, .ireturn, 1), (32, .aload_n 0, 1), (33, .getfield 86, 3), (36, .aload_n 0, 1), (37, .getfield 19, 3), (40, .aload_n 0, 1), (41, .getfield 29, 3), (44, .getfield 114, 3), (47, .iload_n 1, 1), (48, .invokevirtual 260, 3), (51, .ireturn, 1)]
theorem tbX11_lost : vm_chk cX11_lost tlX11_lost = true := by decide +kernel
theorem dX11_lost_0 : vm_at cX11_lost 0 (.iload_n 1) 1 1 ∧ ((1 : Fin 4) : Nat) = 1 := ⟨⟨vm_row tbX11_lost 0 rfl, rfl⟩, rfl⟩
theorem dX11_lost_1 : vm_at cX11_lost 1 (.iconst 1) 1 2 ∧ Int32.ofInt (1) = (1 : Int32) := ⟨⟨vm_row tbX11_lost 1 rfl, rfl⟩, z_iconst_1⟩
theorem dX11_lost_2 : vm_at cX11_lost 2 (.aload_n 0) 1 3 ∧ ((0 : Fin 4) : Nat) = 0 := ⟨⟨vm_row tbX11_lost 2 rfl, rfl⟩, rfl⟩
theorem dX11_lost_3 : vm_at cX11_lost 3 (.getfield 19) 3 6 := ⟨vm_row tbX11_lost 3 rfl, rfl⟩
theorem dX11_lost_6 : vm_at cX11_lost 6 (.getfield 146) 3 9 := ⟨vm_row tbX11_lost 4 rfl, rfl⟩
theorem dX11_lost_9 : vm_at cX11_lost 9 (.ishl) 1 10 := ⟨vm_row tbX11_lost 5 rfl, rfl⟩
theorem dX11_lost_10 : vm_at cX11_lost 10 (.iconst 1) 1 11 ∧ Int32.ofInt (1) = (1 : Int32) := ⟨⟨vm_row tbX11_lost 6 rfl, rfl⟩, z_iconst_1⟩
theorem dX11_lost_11 : vm_at cX11_lost 11 (.isub) 1 12 := ⟨vm_row tbX11_lost 7 rfl, rfl⟩
theorem dX11_lost_12 : vm_at cX11_lost 12 (.iconst (-1)) 1 13 ∧ Int32.ofInt (-1) = (-1 : Int32) := ⟨⟨vm_row tbX11_lost 8 rfl, rfl⟩, z_iconst_m1⟩
theorem dX11_lost_13 : vm_at cX11_lost 13 (.ixor) 1 14 := ⟨vm_row tbX11_lost 9 rfl, rfl⟩
theorem dX11_lost_14 : vm_at cX11_lost 14 (.iand) 1 15 := ⟨vm_row tbX11_lost 10 rfl, rfl⟩
theorem dX11_lost_15 : vm_br cX11_lost 15 (.ifCond .eq 6) 3 18 (6) 21 := ⟨vm_row tbX11_lost 11 rfl, rfl, rfl⟩
theorem dX11_lost_18 : vm_at cX11_lost 18 (.ldc 166) 2 20 := ⟨vm_row tbX11_lost 12 rfl, rfl⟩
theorem dX11_lost_20 : vm_at cX11_lost 20 (.ireturn) 1 21 := ⟨vm_row tbX11_lost 13 rfl, rfl⟩
theorem dX11_lost_21 : vm_at cX11_lost 21 (.iload_n 1) 1 22 ∧ ((1 : Fin 4) : Nat) = 1 := ⟨⟨vm_row tbX11_lost 14 rfl, rfl⟩, rfl⟩
theorem dX11_lost_22 : vm_at cX11_lost 22 (.invokestatic 255) 3 25 := ⟨vm_row tbX11_lost 15 rfl, rfl⟩
theorem dX11_lost_25 : vm_at cX11_lost 25 (.iconst 2) 1 26 ∧ Int32.ofInt (2) = (2 : Int32) := ⟨⟨vm_row tbX11_lost 16 rfl, rfl⟩, z_iconst_2⟩
theorem dX11_lost_26 : vm_br cX11_lost 26 (.if_icmp .ge 6) 3 29 (6) 32 := ⟨vm_row tbX11_lost 17 rfl, rfl, rfl⟩
theorem dX11_lost_29 : vm_at cX11_lost 29 (.ldc 97) 2 31 := ⟨vm_row tbX11_lost 18 rfl, rfl⟩
theorem dX11_lost_31 : vm_at cX11_lost 31 (.ireturn) 1 32 := ⟨vm_row tbX11_lost 19 rfl, rfl⟩
theorem dX11_lost_32 : vm_at cX11_lost 32 (.aload_n 0) 1 33 ∧ ((0 : Fin 4) : Nat) = 0 := ⟨⟨vm_row tbX11_lost 20 rfl, rfl⟩, rfl⟩
theorem dX11_lost_33 : vm_at cX11_lost 33 (.getfield 86) 3 36 := ⟨vm_row tbX11_lost 21 rfl, rfl⟩
theorem dX11_lost_36 : vm_at cX11_lost 36 (.aload_n 0) 1 37 ∧ ((0 : Fin 4) : Nat) = 0 := ⟨⟨vm_row tbX11_lost 22 rfl, rfl⟩, rfl⟩
theorem dX11_lost_37 : vm_at cX11_lost 37 (.getfield 19) 3 40 := ⟨vm_row tbX11_lost 23 rfl, rfl⟩
theorem dX11_lost_40 : vm_at cX11_lost 40 (.aload_n 0) 1 41 ∧ ((0 : Fin 4) : Nat) = 0 := ⟨⟨vm_row tbX11_lost 24 rfl, rfl⟩, rfl⟩
theorem dX11_lost_41 : vm_at cX11_lost 41 (.getfield 29) 3 44 := ⟨vm_row tbX11_lost 25 rfl, rfl⟩
theorem dX11_lost_44 : vm_at cX11_lost 44 (.getfield 114) 3 47 := ⟨vm_row tbX11_lost 26 rfl, rfl⟩
theorem dX11_lost_47 : vm_at cX11_lost 47 (.iload_n 1) 1 48 ∧ ((1 : Fin 4) : Nat) = 1 := ⟨⟨vm_row tbX11_lost 27 rfl, rfl⟩, rfl⟩
theorem dX11_lost_48 : vm_at cX11_lost 48 (.invokevirtual 260) 3 51 := ⟨vm_row tbX11_lost 28 rfl, rfl⟩
theorem dX11_lost_51 : vm_at cX11_lost 51 (.ireturn) 1 52 := ⟨vm_row tbX11_lost 29 rfl, rfl⟩
def tlX11_game : List (Nat × Instr × Nat) := [(0, .aload_n 0, 1), (1, .iload_n 1, 1), (2, .invokevirtual 188, 3), (5, .ifCond .eq 22, 3), (8, .iload_n 2, 1), (9, .ifCond .lt 18, 3), (12, .iload_n 2, 1), (13, .bipush 6, 2), (15, .if_icmp .gt 12, 3), (18, .iload_n 3, 1), (19, .ifCond .lt 8, 3), (22, .iload_n 3, 1), (23, .iconst 1, 1), (24, .if_icmp .le 6, 3), (27, .ldc 97, 2), (29, .ireturn, 1), (30, .aload_n 0, 1), (31, .getfield 93, 3), (34, .aload_n 0, 1), (35, .getfield 19, 3), (38, .aload_n 0, 1), (39, .getfield 29, 3), (42, .getfield 114, 3), (45, .iload_n 1, 1), (46, .iload_n 2, 1), (47, .invokevirtual 264, 3), (50, .iload_n 3, 1), (51, .ifCond .ne 13, 3), (54, .aload_n 0, 1), (55, .getfield 93, 3), (58, .getfield 267, 3), (61, .goto 10, 3), (64, .aload_n 0, 1), (65, .getfield 93, 3), (68, .getfield 270, 3), (71, .ireturn, 1)]
theorem tbX11_game : vm_chk cX11_game tlX11_game = true := by decide +kernel
theorem dX11_game_0 : vm_at cX11_game 0 (.aload_n 0) 1 1 ∧ ((0 : Fin 4) : Nat) = 0 := ⟨⟨vm_row tbX11_game 0 rfl, rfl⟩, rfl⟩
theorem dX11_game_1 : vm_at cX11_game 1 (.iload_n 1) 1 2 ∧ ((1 : Fin 4) : Nat) = 1 := ⟨⟨vm_row tbX11_game 1 rfl, rfl⟩, rfl⟩
theorem dX11_game_2 : vm_at cX11_game 2 (.invokevirtual 188) 3 5 := ⟨vm_row tbX11_game 2 rfl, rfl⟩
theorem dX11_game_5 : vm_br cX11_game 5 (.ifCond .eq 22) 3 8 (22) 27 := ⟨vm_row tbX11_game 3 rfl, rfl, rfl⟩
theorem dX11_game_8 : vm_at cX11_game 8 (.iload_n 2) 1 9 ∧ ((2 : Fin 4) : Nat) = 2 := ⟨⟨vm_row tbX11_game 4 rfl, rfl⟩, rfl⟩
theorem dX11_game_9 : vm_br cX11_game 9 (.ifCond .lt 18) 3 12 (18) 27 := ⟨vm_row tbX11_game 5 rfl, rfl, rfl⟩
theorem dX11_game_12 : vm_at cX11_game 12 (.iload_n 2) 1 13 ∧ ((2 : Fin 4) : Nat) = 2 := ⟨⟨vm_row tbX11_game 6 rfl, rfl⟩, rfl⟩
theorem dX11_game_13 : vm_at cX11_game 13 (.bipush 6) 2 15 ∧ (Int8.ofInt (6)).toInt32 = (6 : Int32) := ⟨⟨vm_row tbX11_game 7 rfl, rfl⟩, z_bipush_6⟩
theorem dX11_game_15 : vm_br cX11_game 15 (.if_icmp .gt 12) 3 18 (12) 27 := ⟨vm_row tbX11_game 8 rfl, rfl, rfl⟩
theorem dX11_game_18 : vm_at cX11_game 18 (.iload_n 3) 1 19 ∧ ((3 : Fin 4) : Nat) = 3 := ⟨⟨vm_row tbX11_game 9 rfl, rfl⟩, rfl⟩
theorem dX11_game_19 : vm_br cX11_game 19 (.ifCond .lt 8) 3 22 (8) 27 := ⟨vm_row tbX11_game 10 rfl, rfl, rfl⟩
theorem dX11_game_22 : vm_at cX11_game 22 (.iload_n 3) 1 23 ∧ ((3 : Fin 4) : Nat) = 3 := ⟨⟨vm_row tbX11_game 11 rfl, rfl⟩, rfl⟩
theorem dX11_game_23 : vm_at cX11_game 23 (.iconst 1) 1 24 ∧ Int32.ofInt (1) = (1 : Int32) := ⟨⟨vm_row tbX11_game 12 rfl, rfl⟩, z_iconst_1⟩
theorem dX11_game_24 : vm_br cX11_game 24 (.if_icmp .le 6) 3 27 (6) 30 := ⟨vm_row tbX11_game 13 rfl, rfl, rfl⟩
theorem dX11_game_27 : vm_at cX11_game 27 (.ldc 97) 2 29 := ⟨vm_row tbX11_game 14 rfl, rfl⟩
theorem dX11_game_29 : vm_at cX11_game 29 (.ireturn) 1 30 := ⟨vm_row tbX11_game 15 rfl, rfl⟩
theorem dX11_game_30 : vm_at cX11_game 30 (.aload_n 0) 1 31 ∧ ((0 : Fin 4) : Nat) = 0 := ⟨⟨vm_row tbX11_game 16 rfl, rfl⟩, rfl⟩
theorem dX11_game_31 : vm_at cX11_game 31 (.getfield 93) 3 34 := ⟨vm_row tbX11_game 17 rfl, rfl⟩
theorem dX11_game_34 : vm_at cX11_game 34 (.aload_n 0) 1 35 ∧ ((0 : Fin 4) : Nat) = 0 := ⟨⟨vm_row tbX11_game 18 rfl, rfl⟩, rfl⟩
theorem dX11_game_35 : vm_at cX11_game 35 (.getfield 19) 3 38 := ⟨vm_row tbX11_game 19 rfl, rfl⟩
theorem dX11_game_38 : vm_at cX11_game 38 (.aload_n 0) 1 39 ∧ ((0 : Fin 4) : Nat) = 0 := ⟨⟨vm_row tbX11_game 20 rfl, rfl⟩, rfl⟩
theorem dX11_game_39 : vm_at cX11_game 39 (.getfield 29) 3 42 := ⟨vm_row tbX11_game 21 rfl, rfl⟩
theorem dX11_game_42 : vm_at cX11_game 42 (.getfield 114) 3 45 := ⟨vm_row tbX11_game 22 rfl, rfl⟩
theorem dX11_game_45 : vm_at cX11_game 45 (.iload_n 1) 1 46 ∧ ((1 : Fin 4) : Nat) = 1 := ⟨⟨vm_row tbX11_game 23 rfl, rfl⟩, rfl⟩
theorem dX11_game_46 : vm_at cX11_game 46 (.iload_n 2) 1 47 ∧ ((2 : Fin 4) : Nat) = 2 := ⟨⟨vm_row tbX11_game 24 rfl, rfl⟩, rfl⟩
theorem dX11_game_47 : vm_at cX11_game 47 (.invokevirtual 264) 3 50 := ⟨vm_row tbX11_game 25 rfl, rfl⟩
theorem dX11_game_50 : vm_at cX11_game 50 (.iload_n 3) 1 51 ∧ ((3 : Fin 4) : Nat) = 3 := ⟨⟨vm_row tbX11_game 26 rfl, rfl⟩, rfl⟩
theorem dX11_game_51 : vm_br cX11_game 51 (.ifCond .ne 13) 3 54 (13) 64 := ⟨vm_row tbX11_game 27 rfl, rfl, rfl⟩
theorem dX11_game_54 : vm_at cX11_game 54 (.aload_n 0) 1 55 ∧ ((0 : Fin 4) : Nat) = 0 := ⟨⟨vm_row tbX11_game 28 rfl, rfl⟩, rfl⟩
theorem dX11_game_55 : vm_at cX11_game 55 (.getfield 93) 3 58 := ⟨vm_row tbX11_game 29 rfl, rfl⟩
theorem dX11_game_58 : vm_at cX11_game 58 (.getfield 267) 3 61 := ⟨vm_row tbX11_game 30 rfl, rfl⟩
theorem dX11_game_61 : vm_br cX11_game 61 (.goto 10) 3 64 (10) 71 := ⟨vm_row tbX11_game 31 rfl, rfl, rfl⟩
theorem dX11_game_64 : vm_at cX11_game 64 (.aload_n 0) 1 65 ∧ ((0 : Fin 4) : Nat) = 0 := ⟨⟨vm_row tbX11_game 32 rfl, rfl⟩, rfl⟩
theorem dX11_game_65 : vm_at cX11_game 65 (.getfield 93) 3 68 := ⟨vm_row tbX11_game 33 rfl, rfl⟩
theorem dX11_game_68 : vm_at cX11_game 68 (.getfield 270) 3 71 := ⟨vm_row tbX11_game 34 rfl, rfl⟩
theorem dX11_game_71 : vm_at cX11_game 71 (.ireturn) 1 72 := ⟨vm_row tbX11_game 35 rfl, rfl⟩
def tlX11_write : List (Nat × Instr × Nat) := [(0, .aload_n 0, 1), (1, .iload_n 1, 1), (2, .invokevirtual 163, 3), (5, .ifCond .ne 6, 3), (8, .ldc 166, 2), (10, .ireturn, 1), (11, .aload_n 0, 1), (12, .iload_n 2, 1), (13, .invokevirtual 188, 3), (16, .ifCond .ne 6, 3), (19, .ldc 97, 2), (21, .ireturn, 1), (22, .aload_n 0, 1), (23, .getfield 42, 3), (26, .getfield 123, 3), (29, .bipush 40, 2), (31, .if_icmp .lt 6, 3), (34, .ldc 102, 2), (36, .ireturn, 1), (37, .aload_n 0, 1), (38, .getfield 42, 3), (41, .iload_n 1, 1), (42, .iload_n 2, 1), (43, .invokevirtual 273, 3), (46, .aload_n 0, 1), (47, .getfield 42, 3), (50, .getfield 123, 3), (53, .ireturn, 1)]
theorem tbX11_write : vm_chk cX11_write tlX11_write = true := by decide +kernel
theorem dX11_write_0 : vm_at cX11_write 0 (.aload_n 0) 1 1 ∧ ((0 : Fin 4) : Nat) = 0 := ⟨⟨vm_row tbX11_write 0 rfl, rfl⟩, rfl⟩
theorem dX11_write_1 : vm_at cX11_write 1 (.iload_n 1) 1 2 ∧ ((1 : Fin 4) : Nat) = 1 := ⟨⟨vm_row tbX11_write 1 rfl, rfl⟩, rfl⟩
theorem dX11_write_2 : vm_at cX11_write 2 (.invokevirtual 163) 3 5 := ⟨vm_row tbX11_write 2 rfl, rfl⟩
theorem dX11_write_5 : vm_br cX11_write 5 (.ifCond .ne 6) 3 8 (6) 11 := ⟨vm_row tbX11_write 3 rfl, rfl, rfl⟩
theorem dX11_write_8 : vm_at cX11_write 8 (.ldc 166) 2 10 := ⟨vm_row tbX11_write 4 rfl, rfl⟩
theorem dX11_write_10 : vm_at cX11_write 10 (.ireturn) 1 11 := ⟨vm_row tbX11_write 5 rfl, rfl⟩
theorem dX11_write_11 : vm_at cX11_write 11 (.aload_n 0) 1 12 ∧ ((0 : Fin 4) : Nat) = 0 := ⟨⟨vm_row tbX11_write 6 rfl, rfl⟩, rfl⟩
theorem dX11_write_12 : vm_at cX11_write 12 (.iload_n 2) 1 13 ∧ ((2 : Fin 4) : Nat) = 2 := ⟨⟨vm_row tbX11_write 7 rfl, rfl⟩, rfl⟩
theorem dX11_write_13 : vm_at cX11_write 13 (.invokevirtual 188) 3 16 := ⟨vm_row tbX11_write 8 rfl, rfl⟩
theorem dX11_write_16 : vm_br cX11_write 16 (.ifCond .ne 6) 3 19 (6) 22 := ⟨vm_row tbX11_write 9 rfl, rfl, rfl⟩
theorem dX11_write_19 : vm_at cX11_write 19 (.ldc 97) 2 21 := ⟨vm_row tbX11_write 10 rfl, rfl⟩
theorem dX11_write_21 : vm_at cX11_write 21 (.ireturn) 1 22 := ⟨vm_row tbX11_write 11 rfl, rfl⟩
theorem dX11_write_22 : vm_at cX11_write 22 (.aload_n 0) 1 23 ∧ ((0 : Fin 4) : Nat) = 0 := ⟨⟨vm_row tbX11_write 12 rfl, rfl⟩, rfl⟩
theorem dX11_write_23 : vm_at cX11_write 23 (.getfield 42) 3 26 := ⟨vm_row tbX11_write 13 rfl, rfl⟩
theorem dX11_write_26 : vm_at cX11_write 26 (.getfield 123) 3 29 := ⟨vm_row tbX11_write 14 rfl, rfl⟩
theorem dX11_write_29 : vm_at cX11_write 29 (.bipush 40) 2 31 ∧ (Int8.ofInt (40)).toInt32 = (40 : Int32) := ⟨⟨vm_row tbX11_write 15 rfl, rfl⟩, z_bipush_40⟩
theorem dX11_write_31 : vm_br cX11_write 31 (.if_icmp .lt 6) 3 34 (6) 37 := ⟨vm_row tbX11_write 16 rfl, rfl, rfl⟩
theorem dX11_write_34 : vm_at cX11_write 34 (.ldc 102) 2 36 := ⟨vm_row tbX11_write 17 rfl, rfl⟩
theorem dX11_write_36 : vm_at cX11_write 36 (.ireturn) 1 37 := ⟨vm_row tbX11_write 18 rfl, rfl⟩
theorem dX11_write_37 : vm_at cX11_write 37 (.aload_n 0) 1 38 ∧ ((0 : Fin 4) : Nat) = 0 := ⟨⟨vm_row tbX11_write 19 rfl, rfl⟩, rfl⟩
theorem dX11_write_38 : vm_at cX11_write 38 (.getfield 42) 3 41 := ⟨vm_row tbX11_write 20 rfl, rfl⟩
theorem dX11_write_41 : vm_at cX11_write 41 (.iload_n 1) 1 42 ∧ ((1 : Fin 4) : Nat) = 1 := ⟨⟨vm_row tbX11_write 21 rfl, rfl⟩, rfl⟩
theorem dX11_write_42 : vm_at cX11_write 42 (.iload_n 2) 1 43 ∧ ((2 : Fin 4) : Nat) = 2 := ⟨⟨vm_row tbX11_write 22 rfl, rfl⟩, rfl⟩
theorem dX11_write_43 : vm_at cX11_write 43 (.invokevirtual 273) 3 46 := ⟨vm_row tbX11_write 23 rfl, rfl⟩
theorem dX11_write_46 : vm_at cX11_write 46 (.aload_n 0) 1 47 ∧ ((0 : Fin 4) : Nat) = 0 := ⟨⟨vm_row tbX11_write 24 rfl, rfl⟩, rfl⟩
theorem dX11_write_47 : vm_at cX11_write 47 (.getfield 42) 3 50 := ⟨vm_row tbX11_write 25 rfl, rfl⟩
theorem dX11_write_50 : vm_at cX11_write 50 (.getfield 123) 3 53 := ⟨vm_row tbX11_write 26 rfl, rfl⟩
theorem dX11_write_53 : vm_at cX11_write 53 (.ireturn) 1 54 := ⟨vm_row tbX11_write 27 rfl, rfl⟩
def tlX11_tear : List (Nat × Instr × Nat) := [(0, .aload_n 0, 1), (1, .getfield 42, 3), (4, .getfield 123, 3), (7, .istore_n 1, 1), (8, .aload_n 0, 1), (9, .getfield 42, 3), (12, .iconst 0, 1), (13, .putfield 123, 3), (16, .iload_n 1, 1), (17, .ireturn, 1)]
theorem tbX11_tear : vm_chk cX11_tear tlX11_tear = true := by decide +kernel
theorem dX11_tear_0 : vm_at cX11_tear 0 (.aload_n 0) 1 1 ∧ ((0 : Fin 4) : Nat) = 0 := ⟨⟨vm_row tbX11_tear 0 rfl, rfl⟩, rfl⟩
theorem dX11_tear_1 : vm_at cX11_tear 1 (.getfield 42) 3 4 := ⟨vm_row tbX11_tear 1 rfl, rfl⟩
theorem dX11_tear_4 : vm_at cX11_tear 4 (.getfield 123) 3 7 := ⟨vm_row tbX11_tear 2 rfl, rfl⟩
theorem dX11_tear_7 : vm_at cX11_tear 7 (.istore_n 1) 1 8 ∧ ((1 : Fin 4) : Nat) = 1 := ⟨⟨vm_row tbX11_tear 3 rfl, rfl⟩, rfl⟩
theorem dX11_tear_8 : vm_at cX11_tear 8 (.aload_n 0) 1 9 ∧ ((0 : Fin 4) : Nat) = 0 := ⟨⟨vm_row tbX11_tear 4 rfl, rfl⟩, rfl⟩
theorem dX11_tear_9 : vm_at cX11_tear 9 (.getfield 42) 3 12 := ⟨vm_row tbX11_tear 5 rfl, rfl⟩
theorem dX11_tear_12 : vm_at cX11_tear 12 (.iconst 0) 1 13 ∧ Int32.ofInt (0) = (0 : Int32) := ⟨⟨vm_row tbX11_tear 6 rfl, rfl⟩, z_iconst_0⟩
theorem dX11_tear_13 : vm_at cX11_tear 13 (.putfield 123) 3 16 := ⟨vm_row tbX11_tear 7 rfl, rfl⟩
theorem dX11_tear_16 : vm_at cX11_tear 16 (.iload_n 1) 1 17 ∧ ((1 : Fin 4) : Nat) = 1 := ⟨⟨vm_row tbX11_tear 8 rfl, rfl⟩, rfl⟩
theorem dX11_tear_17 : vm_at cX11_tear 17 (.ireturn) 1 18 := ⟨vm_row tbX11_tear 9 rfl, rfl⟩
def tlX11_judge : List (Nat × Instr × Nat) := [(0, .aload_n 0, 1), (1, .getfield 42, 3), (4, .aload_n 0, 1), (5, .getfield 19, 3), (8, .aload_n 0, 1), (9, .getfield 29, 3), (12, .getfield 114, 3), (15, .invokevirtual 276, 3), (18, .ireturn, 1)]
theorem tbX11_judge : vm_chk cX11_judge tlX11_judge = true := by decide +kernel
theorem dX11_judge_0 : vm_at cX11_judge 0 (.aload_n 0) 1 1 ∧ ((0 : Fin 4) : Nat) = 0 := ⟨⟨vm_row tbX11_judge 0 rfl, rfl⟩, rfl⟩
theorem dX11_judge_1 : vm_at cX11_judge 1 (.getfield 42) 3 4 := ⟨vm_row tbX11_judge 1 rfl, rfl⟩
theorem dX11_judge_4 : vm_at cX11_judge 4 (.aload_n 0) 1 5 ∧ ((0 : Fin 4) : Nat) = 0 := ⟨⟨vm_row tbX11_judge 2 rfl, rfl⟩, rfl⟩
theorem dX11_judge_5 : vm_at cX11_judge 5 (.getfield 19) 3 8 := ⟨vm_row tbX11_judge 3 rfl, rfl⟩
theorem dX11_judge_8 : vm_at cX11_judge 8 (.aload_n 0) 1 9 ∧ ((0 : Fin 4) : Nat) = 0 := ⟨⟨vm_row tbX11_judge 4 rfl, rfl⟩, rfl⟩
theorem dX11_judge_9 : vm_at cX11_judge 9 (.getfield 29) 3 12 := ⟨vm_row tbX11_judge 5 rfl, rfl⟩
theorem dX11_judge_12 : vm_at cX11_judge 12 (.getfield 114) 3 15 := ⟨vm_row tbX11_judge 6 rfl, rfl⟩
theorem dX11_judge_15 : vm_at cX11_judge 15 (.invokevirtual 276) 3 18 := ⟨vm_row tbX11_judge 7 rfl, rfl⟩
theorem dX11_judge_18 : vm_at cX11_judge 18 (.ireturn) 1 19 := ⟨vm_row tbX11_judge 8 rfl, rfl⟩
def tlX11_drift : List (Nat × Instr × Nat) := [(0, .iload_n 1, 1), (1, .iconst 1, 1), (2, .if_icmp .lt 10, 3), (5, .iload_n 1, 1), (6, .sipush 999, 3), (9, .if_icmp .le 6, 3), (12, .ldc 97, 2), (14, .ireturn, 1), (15, .aload_n 0, 1), (16, .getfield 19, 3), (19, .getfield 146, 3), (22, .ifCond .ne 6, 3), (25, .ldc 208, 2), (27, .ireturn, 1), (28, .iconst 0, 1), (29, .istore_n 2, 1), (30, .iload_n 2, 1), (31, .iload_n 1, 1), (32, .if_icmp .ge 34, 3), (35, .aload_n 0, 1), (36, .getfield 29, 3), (39, .aload_n 0, 1), (40, .getfield 19, 3), (43, .aload_n 0, 1), (44, .getfield 29, 3), (47, .aload_n 0, 1), (48, .getfield 19, 3), (51, .getfield 146, 3), (54, .invokevirtual 280, 3), (57, .invokevirtual 184, 3), (60, .iinc 2 1, 3), (63, .goto (-33), 3), (66, .aload_n 0, 1), (67, .invokevirtual 128, 3), (70, .aload_n 0, 1), (71, .getfield 29, 3), (74, .getfield 114, 3), (77, .invokestatic 149, 3), (80, .ireturn, 1)]
theorem tbX11_drift : vm_chk cX11_drift tlX11_drift = true := by decide +kernel
theorem dX11_drift_0 : vm_at cX11_drift 0 (.iload_n 1) 1 1 ∧ ((1 : Fin 4) : Nat) = 1 := ⟨⟨vm_row tbX11_drift 0 rfl, rfl⟩, rfl⟩
theorem dX11_drift_1 : vm_at cX11_drift 1 (.iconst 1) 1 2 ∧ Int32.ofInt (1) = (1 : Int32) := ⟨⟨vm_row tbX11_drift 1 rfl, rfl⟩, z_iconst_1⟩
theorem dX11_drift_2 : vm_br cX11_drift 2 (.if_icmp .lt 10) 3 5 (10) 12 := ⟨vm_row tbX11_drift 2 rfl, rfl, rfl⟩
theorem dX11_drift_5 : vm_at cX11_drift 5 (.iload_n 1) 1 6 ∧ ((1 : Fin 4) : Nat) = 1 := ⟨⟨vm_row tbX11_drift 3 rfl, rfl⟩, rfl⟩
theorem dX11_drift_6 : vm_at cX11_drift 6 (.sipush 999) 3 9 ∧ (Int16.ofInt (999)).toInt32 = (999 : Int32) := ⟨⟨vm_row tbX11_drift 4 rfl, rfl⟩, z_sipush_999⟩
theorem dX11_drift_9 : vm_br cX11_drift 9 (.if_icmp .le 6) 3 12 (6) 15 := ⟨vm_row tbX11_drift 5 rfl, rfl, rfl⟩
theorem dX11_drift_12 : vm_at cX11_drift 12 (.ldc 97) 2 14 := ⟨vm_row tbX11_drift 6 rfl, rfl⟩
theorem dX11_drift_14 : vm_at cX11_drift 14 (.ireturn) 1 15 := ⟨vm_row tbX11_drift 7 rfl, rfl⟩
theorem dX11_drift_15 : vm_at cX11_drift 15 (.aload_n 0) 1 16 ∧ ((0 : Fin 4) : Nat) = 0 := ⟨⟨vm_row tbX11_drift 8 rfl, rfl⟩, rfl⟩
theorem dX11_drift_16 : vm_at cX11_drift 16 (.getfield 19) 3 19 := ⟨vm_row tbX11_drift 9 rfl, rfl⟩
theorem dX11_drift_19 : vm_at cX11_drift 19 (.getfield 146) 3 22 := ⟨vm_row tbX11_drift 10 rfl, rfl⟩
theorem dX11_drift_22 : vm_br cX11_drift 22 (.ifCond .ne 6) 3 25 (6) 28 := ⟨vm_row tbX11_drift 11 rfl, rfl, rfl⟩
theorem dX11_drift_25 : vm_at cX11_drift 25 (.ldc 208) 2 27 := ⟨vm_row tbX11_drift 12 rfl, rfl⟩
theorem dX11_drift_27 : vm_at cX11_drift 27 (.ireturn) 1 28 := ⟨vm_row tbX11_drift 13 rfl, rfl⟩
theorem dX11_drift_28 : vm_at cX11_drift 28 (.iconst 0) 1 29 ∧ Int32.ofInt (0) = (0 : Int32) := ⟨⟨vm_row tbX11_drift 14 rfl, rfl⟩, z_iconst_0⟩
theorem dX11_drift_29 : vm_at cX11_drift 29 (.istore_n 2) 1 30 ∧ ((2 : Fin 4) : Nat) = 2 := ⟨⟨vm_row tbX11_drift 15 rfl, rfl⟩, rfl⟩
theorem dX11_drift_30 : vm_at cX11_drift 30 (.iload_n 2) 1 31 ∧ ((2 : Fin 4) : Nat) = 2 := ⟨⟨vm_row tbX11_drift 16 rfl, rfl⟩, rfl⟩
theorem dX11_drift_31 : vm_at cX11_drift 31 (.iload_n 1) 1 32 ∧ ((1 : Fin 4) : Nat) = 1 := ⟨⟨vm_row tbX11_drift 17 rfl, rfl⟩, rfl⟩
theorem dX11_drift_32 : vm_br cX11_drift 32 (.if_icmp .ge 34) 3 35 (34) 66 := ⟨vm_row tbX11_drift 18 rfl, rfl, rfl⟩
theorem dX11_drift_35 : vm_at cX11_drift 35 (.aload_n 0) 1 36 ∧ ((0 : Fin 4) : Nat) = 0 := ⟨⟨vm_row tbX11_drift 19 rfl, rfl⟩, rfl⟩
theorem dX11_drift_36 : vm_at cX11_drift 36 (.getfield 29) 3 39 := ⟨vm_row tbX11_drift 20 rfl, rfl⟩
theorem dX11_drift_39 : vm_at cX11_drift 39 (.aload_n 0) 1 40 ∧ ((0 : Fin 4) : Nat) = 0 := ⟨⟨vm_row tbX11_drift 21 rfl, rfl⟩, rfl⟩
theorem dX11_drift_40 : vm_at cX11_drift 40 (.getfield 19) 3 43 := ⟨vm_row tbX11_drift 22 rfl, rfl⟩
theorem dX11_drift_43 : vm_at cX11_drift 43 (.aload_n 0) 1 44 ∧ ((0 : Fin 4) : Nat) = 0 := ⟨⟨vm_row tbX11_drift 23 rfl, rfl⟩, rfl⟩
theorem dX11_drift_44 : vm_at cX11_drift 44 (.getfield 29) 3 47 := ⟨vm_row tbX11_drift 24 rfl, rfl⟩
theorem dX11_drift_47 : vm_at cX11_drift 47 (.aload_n 0) 1 48 ∧ ((0 : Fin 4) : Nat) = 0 := ⟨⟨vm_row tbX11_drift 25 rfl, rfl⟩, rfl⟩
theorem dX11_drift_48 : vm_at cX11_drift 48 (.getfield 19) 3 51 := ⟨vm_row tbX11_drift 26 rfl, rfl⟩
theorem dX11_drift_51 : vm_at cX11_drift 51 (.getfield 146) 3 54 := ⟨vm_row tbX11_drift 27 rfl, rfl⟩
theorem dX11_drift_54 : vm_at cX11_drift 54 (.invokevirtual 280) 3 57 := ⟨vm_row tbX11_drift 28 rfl, rfl⟩
theorem dX11_drift_57 : vm_at cX11_drift 57 (.invokevirtual 184) 3 60 := ⟨vm_row tbX11_drift 29 rfl, rfl⟩
theorem dX11_drift_60 : vm_at cX11_drift 60 (.iinc 2 1) 3 63 ∧ Int32.ofInt (1) = (1 : Int32) := ⟨⟨vm_row tbX11_drift 30 rfl, rfl⟩, z_iconst_1⟩
theorem dX11_drift_63 : vm_br cX11_drift 63 (.goto (-33)) 3 66 (-33) 30 := ⟨vm_row tbX11_drift 31 rfl, rfl, rfl⟩
theorem dX11_drift_66 : vm_at cX11_drift 66 (.aload_n 0) 1 67 ∧ ((0 : Fin 4) : Nat) = 0 := ⟨⟨vm_row tbX11_drift 32 rfl, rfl⟩, rfl⟩
theorem dX11_drift_67 : vm_at cX11_drift 67 (.invokevirtual 128) 3 70 := ⟨vm_row tbX11_drift 33 rfl, rfl⟩
theorem dX11_drift_70 : vm_at cX11_drift 70 (.aload_n 0) 1 71 ∧ ((0 : Fin 4) : Nat) = 0 := ⟨⟨vm_row tbX11_drift 34 rfl, rfl⟩, rfl⟩
theorem dX11_drift_71 : vm_at cX11_drift 71 (.getfield 29) 3 74 := ⟨vm_row tbX11_drift 35 rfl, rfl⟩
theorem dX11_drift_74 : vm_at cX11_drift 74 (.getfield 114) 3 77 := ⟨vm_row tbX11_drift 36 rfl, rfl⟩
theorem dX11_drift_77 : vm_at cX11_drift 77 (.invokestatic 149) 3 80 := ⟨vm_row tbX11_drift 37 rfl, rfl⟩
theorem dX11_drift_80 : vm_at cX11_drift 80 (.ireturn) 1 81 := ⟨vm_row tbX11_drift 38 rfl, rfl⟩
def tlX11_seed : List (Nat × Instr × Nat) := [(0, .iload_n 1, 1), (1, .ifCond .ge 6, 3), (4, .ldc 97, 2), (6, .ireturn, 1), (7, .aload_n 0, 1), (8, .getfield 29, 3), (11, .getfield 283, 3), (14, .istore_n 2, 1), (15, .aload_n 0, 1), (16, .getfield 29, 3), (19, .iload_n 1, 1), (20, .putfield 283, 3), (23, .iload_n 2, 1), (24, .ireturn, 1)]
theorem tbX11_seed : vm_chk cX11_seed tlX11_seed = true := by decide +kernel
theorem dX11_seed_0 : vm_at cX11_seed 0 (.iload_n 1) 1 1 ∧ ((1 : Fin 4) : Nat) = 1 := ⟨⟨vm_row tbX11_seed 0 rfl, rfl⟩, rfl⟩
theorem dX11_seed_1 : vm_br cX11_seed 1 (.ifCond .ge 6) 3 4 (6) 7 := ⟨vm_row tbX11_seed 1 rfl, rfl, rfl⟩
theorem dX11_seed_4 : vm_at cX11_seed 4 (.ldc 97) 2 6 := ⟨vm_row tbX11_seed 2 rfl, rfl⟩
theorem dX11_seed_6 : vm_at cX11_seed 6 (.ireturn) 1 7 := ⟨vm_row tbX11_seed 3 rfl, rfl⟩
theorem dX11_seed_7 : vm_at cX11_seed 7 (.aload_n 0) 1 8 ∧ ((0 : Fin 4) : Nat) = 0 := ⟨⟨vm_row tbX11_seed 4 rfl, rfl⟩, rfl⟩
theorem dX11_seed_8 : vm_at cX11_seed 8 (.getfield 29) 3 11 := ⟨vm_row tbX11_seed 5 rfl, rfl⟩
theorem dX11_seed_11 : vm_at cX11_seed 11 (.getfield 283) 3 14 := ⟨vm_row tbX11_seed 6 rfl, rfl⟩
theorem dX11_seed_14 : vm_at cX11_seed 14 (.istore_n 2) 1 15 ∧ ((2 : Fin 4) : Nat) = 2 := ⟨⟨vm_row tbX11_seed 7 rfl, rfl⟩, rfl⟩
theorem dX11_seed_15 : vm_at cX11_seed 15 (.aload_n 0) 1 16 ∧ ((0 : Fin 4) : Nat) = 0 := ⟨⟨vm_row tbX11_seed 8 rfl, rfl⟩, rfl⟩
theorem dX11_seed_16 : vm_at cX11_seed 16 (.getfield 29) 3 19 := ⟨vm_row tbX11_seed 9 rfl, rfl⟩
theorem dX11_seed_19 : vm_at cX11_seed 19 (.iload_n 1) 1 20 ∧ ((1 : Fin 4) : Nat) = 1 := ⟨⟨vm_row tbX11_seed 10 rfl, rfl⟩, rfl⟩
theorem dX11_seed_20 : vm_at cX11_seed 20 (.putfield 283) 3 23 := ⟨vm_row tbX11_seed 11 rfl, rfl⟩
theorem dX11_seed_23 : vm_at cX11_seed 23 (.iload_n 2) 1 24 ∧ ((2 : Fin 4) : Nat) = 2 := ⟨⟨vm_row tbX11_seed 12 rfl, rfl⟩, rfl⟩
theorem dX11_seed_24 : vm_at cX11_seed 24 (.ireturn) 1 25 := ⟨vm_row tbX11_seed 13 rfl, rfl⟩
def tlX11_keep : List (Nat × Instr × Nat) := [(0, .aload_n 0, 1), (1, .iload_n 1, 1), (2, .invokevirtual 286, 3), (5, .astore_n 2, 1), (6, .aload_n 2, 1), (7, .ifnonnull 6, 3), (10, .ldc 166, 2), (12, .ireturn, 1), (13, .aload_n 2, 1), (14, .aload_n 0, 1), (15, .getfield 29, 3), (18, .invokevirtual 290, 3), (21, .aload_n 2, 1), (22, .iconst 1, 1), (23, .putfield 124, 3), (26, .iconst 1, 1), (27, .ireturn, 1)]
theorem tbX11_keep : vm_chk cX11_keep tlX11_keep = true := by decide +kernel
theorem dX11_keep_0 : vm_at cX11_keep 0 (.aload_n 0) 1 1 ∧ ((0 : Fin 4) : Nat) = 0 := ⟨⟨vm_row tbX11_keep 0 rfl, rfl⟩, rfl⟩
theorem dX11_keep_1 : vm_at cX11_keep 1 (.iload_n 1) 1 2 ∧ ((1 : Fin 4) : Nat) = 1 := ⟨⟨vm_row tbX11_keep 1 rfl, rfl⟩, rfl⟩
theorem dX11_keep_2 : vm_at cX11_keep 2 (.invokevirtual 286) 3 5 := ⟨vm_row tbX11_keep 2 rfl, rfl⟩
theorem dX11_keep_5 : vm_at cX11_keep 5 (.astore_n 2) 1 6 ∧ ((2 : Fin 4) : Nat) = 2 := ⟨⟨vm_row tbX11_keep 3 rfl, rfl⟩, rfl⟩
theorem dX11_keep_6 : vm_at cX11_keep 6 (.aload_n 2) 1 7 ∧ ((2 : Fin 4) : Nat) = 2 := ⟨⟨vm_row tbX11_keep 4 rfl, rfl⟩, rfl⟩
theorem dX11_keep_7 : vm_br cX11_keep 7 (.ifnonnull 6) 3 10 (6) 13 := ⟨vm_row tbX11_keep 5 rfl, rfl, rfl⟩
theorem dX11_keep_10 : vm_at cX11_keep 10 (.ldc 166) 2 12 := ⟨vm_row tbX11_keep 6 rfl, rfl⟩
theorem dX11_keep_12 : vm_at cX11_keep 12 (.ireturn) 1 13 := ⟨vm_row tbX11_keep 7 rfl, rfl⟩
theorem dX11_keep_13 : vm_at cX11_keep 13 (.aload_n 2) 1 14 ∧ ((2 : Fin 4) : Nat) = 2 := ⟨⟨vm_row tbX11_keep 8 rfl, rfl⟩, rfl⟩
theorem dX11_keep_14 : vm_at cX11_keep 14 (.aload_n 0) 1 15 ∧ ((0 : Fin 4) : Nat) = 0 := ⟨⟨vm_row tbX11_keep 9 rfl, rfl⟩, rfl⟩
theorem dX11_keep_15 : vm_at cX11_keep 15 (.getfield 29) 3 18 := ⟨vm_row tbX11_keep 10 rfl, rfl⟩
theorem dX11_keep_18 : vm_at cX11_keep 18 (.invokevirtual 290) 3 21 := ⟨vm_row tbX11_keep 11 rfl, rfl⟩
theorem dX11_keep_21 : vm_at cX11_keep 21 (.aload_n 2) 1 22 ∧ ((2 : Fin 4) : Nat) = 2 := ⟨⟨vm_row tbX11_keep 12 rfl, rfl⟩, rfl⟩
theorem dX11_keep_22 : vm_at cX11_keep 22 (.iconst 1) 1 23 ∧ Int32.ofInt (1) = (1 : Int32) := ⟨⟨vm_row tbX11_keep 13 rfl, rfl⟩, z_iconst_1⟩
theorem dX11_keep_23 : vm_at cX11_keep 23 (.putfield 124) 3 26 := ⟨vm_row tbX11_keep 14 rfl, rfl⟩
theorem dX11_keep_26 : vm_at cX11_keep 26 (.iconst 1) 1 27 ∧ Int32.ofInt (1) = (1 : Int32) := ⟨⟨vm_row tbX11_keep 15 rfl, rfl⟩, z_iconst_1⟩
theorem dX11_keep_27 : vm_at cX11_keep 27 (.ireturn) 1 28 := ⟨vm_row tbX11_keep 16 rfl, rfl⟩
def tlX11_goBack : List (Nat × Instr × Nat) := [(0, .aload_n 0, 1), (1, .iload_n 1, 1), (2, .invokevirtual 286, 3), (5, .astore_n 2, 1), (6, .aload_n 2, 1), (7, .ifnonnull 6, 3), (10, .ldc 166, 2), (12, .ireturn, 1), (13, .aload_n 2, 1), (14, .getfield 124, 3), (17, .ifCond .ne 6, 3), (20, .ldc 208, 2), (22, .ireturn, 1), (23, .aload_n 0, 1), (24, .getfield 29, 3), (27, .aload_n 2, 1), (28, .invokevirtual 290, 3), (31, .aload_n 0, 1), (32, .invokevirtual 128, 3), (35, .iconst 1, 1), (36, .ireturn, 1)]
theorem tbX11_goBack : vm_chk cX11_goBack tlX11_goBack = true := by decide +kernel
theorem dX11_goBack_0 : vm_at cX11_goBack 0 (.aload_n 0) 1 1 ∧ ((0 : Fin 4) : Nat) = 0 := ⟨⟨vm_row tbX11_goBack 0 rfl, rfl⟩, rfl⟩
theorem dX11_goBack_1 : vm_at cX11_goBack 1 (.iload_n 1) 1 2 ∧ ((1 : Fin 4) : Nat) = 1 := ⟨⟨vm_row tbX11_goBack 1 rfl, rfl⟩, rfl⟩
theorem dX11_goBack_2 : vm_at cX11_goBack 2 (.invokevirtual 286) 3 5 := ⟨vm_row tbX11_goBack 2 rfl, rfl⟩
theorem dX11_goBack_5 : vm_at cX11_goBack 5 (.astore_n 2) 1 6 ∧ ((2 : Fin 4) : Nat) = 2 := ⟨⟨vm_row tbX11_goBack 3 rfl, rfl⟩, rfl⟩
theorem dX11_goBack_6 : vm_at cX11_goBack 6 (.aload_n 2) 1 7 ∧ ((2 : Fin 4) : Nat) = 2 := ⟨⟨vm_row tbX11_goBack 4 rfl, rfl⟩, rfl⟩
theorem dX11_goBack_7 : vm_br cX11_goBack 7 (.ifnonnull 6) 3 10 (6) 13 := ⟨vm_row tbX11_goBack 5 rfl, rfl, rfl⟩
theorem dX11_goBack_10 : vm_at cX11_goBack 10 (.ldc 166) 2 12 := ⟨vm_row tbX11_goBack 6 rfl, rfl⟩
theorem dX11_goBack_12 : vm_at cX11_goBack 12 (.ireturn) 1 13 := ⟨vm_row tbX11_goBack 7 rfl, rfl⟩
theorem dX11_goBack_13 : vm_at cX11_goBack 13 (.aload_n 2) 1 14 ∧ ((2 : Fin 4) : Nat) = 2 := ⟨⟨vm_row tbX11_goBack 8 rfl, rfl⟩, rfl⟩
theorem dX11_goBack_14 : vm_at cX11_goBack 14 (.getfield 124) 3 17 := ⟨vm_row tbX11_goBack 9 rfl, rfl⟩
theorem dX11_goBack_17 : vm_br cX11_goBack 17 (.ifCond .ne 6) 3 20 (6) 23 := ⟨vm_row tbX11_goBack 10 rfl, rfl, rfl⟩
theorem dX11_goBack_20 : vm_at cX11_goBack 20 (.ldc 208) 2 22 := ⟨vm_row tbX11_goBack 11 rfl, rfl⟩
theorem dX11_goBack_22 : vm_at cX11_goBack 22 (.ireturn) 1 23 := ⟨vm_row tbX11_goBack 12 rfl, rfl⟩
theorem dX11_goBack_23 : vm_at cX11_goBack 23 (.aload_n 0) 1 24 ∧ ((0 : Fin 4) : Nat) = 0 := ⟨⟨vm_row tbX11_goBack 13 rfl, rfl⟩, rfl⟩
theorem dX11_goBack_24 : vm_at cX11_goBack 24 (.getfield 29) 3 27 := ⟨vm_row tbX11_goBack 14 rfl, rfl⟩
theorem dX11_goBack_27 : vm_at cX11_goBack 27 (.aload_n 2) 1 28 ∧ ((2 : Fin 4) : Nat) = 2 := ⟨⟨vm_row tbX11_goBack 15 rfl, rfl⟩, rfl⟩
theorem dX11_goBack_28 : vm_at cX11_goBack 28 (.invokevirtual 290) 3 31 := ⟨vm_row tbX11_goBack 16 rfl, rfl⟩
theorem dX11_goBack_31 : vm_at cX11_goBack 31 (.aload_n 0) 1 32 ∧ ((0 : Fin 4) : Nat) = 0 := ⟨⟨vm_row tbX11_goBack 17 rfl, rfl⟩, rfl⟩
theorem dX11_goBack_32 : vm_at cX11_goBack 32 (.invokevirtual 128) 3 35 := ⟨vm_row tbX11_goBack 18 rfl, rfl⟩
theorem dX11_goBack_35 : vm_at cX11_goBack 35 (.iconst 1) 1 36 ∧ Int32.ofInt (1) = (1 : Int32) := ⟨⟨vm_row tbX11_goBack 19 rfl, rfl⟩, z_iconst_1⟩
theorem dX11_goBack_36 : vm_at cX11_goBack 36 (.ireturn) 1 37 := ⟨vm_row tbX11_goBack 20 rfl, rfl⟩
def tlX11_isKey : List (Nat × Instr × Nat) := [(0, .iload_n 1, 1), (1, .ifCond .lt 18, 3), (4, .iload_n 1, 1), (5, .aload_n 0, 1), (6, .getfield 19, 3), (9, .getfield 146, 3), (12, .if_icmp .ge 7, 3), (15, .iconst 1, 1), (16, .goto 4, 3), (19, .iconst 0, 1), (20, .ireturn, 1)]
theorem tbX11_isKey : vm_chk cX11_isKey tlX11_isKey = true := by decide +kernel
theorem dX11_isKey_0 : vm_at cX11_isKey 0 (.iload_n 1) 1 1 ∧ ((1 : Fin 4) : Nat) = 1 := ⟨⟨vm_row tbX11_isKey 0 rfl, rfl⟩, rfl⟩
theorem dX11_isKey_1 : vm_br cX11_isKey 1 (.ifCond .lt 18) 3 4 (18) 19 := ⟨vm_row tbX11_isKey 1 rfl, rfl, rfl⟩
theorem dX11_isKey_4 : vm_at cX11_isKey 4 (.iload_n 1) 1 5 ∧ ((1 : Fin 4) : Nat) = 1 := ⟨⟨vm_row tbX11_isKey 2 rfl, rfl⟩, rfl⟩
theorem dX11_isKey_5 : vm_at cX11_isKey 5 (.aload_n 0) 1 6 ∧ ((0 : Fin 4) : Nat) = 0 := ⟨⟨vm_row tbX11_isKey 3 rfl, rfl⟩, rfl⟩
theorem dX11_isKey_6 : vm_at cX11_isKey 6 (.getfield 19) 3 9 := ⟨vm_row tbX11_isKey 4 rfl, rfl⟩
theorem dX11_isKey_9 : vm_at cX11_isKey 9 (.getfield 146) 3 12 := ⟨vm_row tbX11_isKey 5 rfl, rfl⟩
theorem dX11_isKey_12 : vm_br cX11_isKey 12 (.if_icmp .ge 7) 3 15 (7) 19 := ⟨vm_row tbX11_isKey 6 rfl, rfl, rfl⟩
theorem dX11_isKey_15 : vm_at cX11_isKey 15 (.iconst 1) 1 16 ∧ Int32.ofInt (1) = (1 : Int32) := ⟨⟨vm_row tbX11_isKey 7 rfl, rfl⟩, z_iconst_1⟩
theorem dX11_isKey_16 : vm_br cX11_isKey 16 (.goto 4) 3 19 (4) 20 := ⟨vm_row tbX11_isKey 8 rfl, rfl, rfl⟩
theorem dX11_isKey_19 : vm_at cX11_isKey 19 (.iconst 0) 1 20 ∧ Int32.ofInt (0) = (0 : Int32) := ⟨⟨vm_row tbX11_isKey 9 rfl, rfl⟩, z_iconst_0⟩
theorem dX11_isKey_20 : vm_at cX11_isKey 20 (.ireturn) 1 21 := ⟨vm_row tbX11_isKey 10 rfl, rfl⟩
def tlX11_isOnDial : List (Nat × Instr × Nat) := [(0, .iload_n 1, 1), (1, .ifCond .lt 18, 3), (4, .iload_n 1, 1), (5, .aload_n 0, 1), (6, .getfield 19, 3), (9, .getfield 131, 3), (12, .if_icmp .ge 7, 3), (15, .iconst 1, 1), (16, .goto 4, 3), (19, .iconst 0, 1), (20, .ireturn, 1)]
theorem tbX11_isOnDial : vm_chk cX11_isOnDial tlX11_isOnDial = true := by decide +kernel
theorem dX11_isOnDial_0 : vm_at cX11_isOnDial 0 (.iload_n 1) 1 1 ∧ ((1 : Fin 4) : Nat) = 1 := ⟨⟨vm_row tbX11_isOnDial 0 rfl, rfl⟩, rfl⟩
theorem dX11_isOnDial_1 : vm_br cX11_isOnDial 1 (.ifCond .lt 18) 3 4 (18) 19 := ⟨vm_row tbX11_isOnDial 1 rfl, rfl, rfl⟩
theorem dX11_isOnDial_4 : vm_at cX11_isOnDial 4 (.iload_n 1) 1 5 ∧ ((1 : Fin 4) : Nat) = 1 := ⟨⟨vm_row tbX11_isOnDial 2 rfl, rfl⟩, rfl⟩
theorem dX11_isOnDial_5 : vm_at cX11_isOnDial 5 (.aload_n 0) 1 6 ∧ ((0 : Fin 4) : Nat) = 0 := ⟨⟨vm_row tbX11_isOnDial 3 rfl, rfl⟩, rfl⟩
theorem dX11_isOnDial_6 : vm_at cX11_isOnDial 6 (.getfield 19) 3 9 := ⟨vm_row tbX11_isOnDial 4 rfl, rfl⟩
theorem dX11_isOnDial_9 : vm_at cX11_isOnDial 9 (.getfield 131) 3 12 := ⟨vm_row tbX11_isOnDial 5 rfl, rfl⟩
theorem dX11_isOnDial_12 : vm_br cX11_isOnDial 12 (.if_icmp .ge 7) 3 15 (7) 19 := ⟨vm_row tbX11_isOnDial 6 rfl, rfl, rfl⟩
theorem dX11_isOnDial_15 : vm_at cX11_isOnDial 15 (.iconst 1) 1 16 ∧ Int32.ofInt (1) = (1 : Int32) := ⟨⟨vm_row tbX11_isOnDial 7 rfl, rfl⟩, z_iconst_1⟩
theorem dX11_isOnDial_16 : vm_br cX11_isOnDial 16 (.goto 4) 3 19 (4) 20 := ⟨vm_row tbX11_isOnDial 8 rfl, rfl, rfl⟩
theorem dX11_isOnDial_19 : vm_at cX11_isOnDial 19 (.iconst 0) 1 20 ∧ Int32.ofInt (0) = (0 : Int32) := ⟨⟨vm_row tbX11_isOnDial 9 rfl, rfl⟩, z_iconst_0⟩
theorem dX11_isOnDial_20 : vm_at cX11_isOnDial 20 (.ireturn) 1 21 := ⟨vm_row tbX11_isOnDial 10 rfl, rfl⟩
def tlX11_imageAt : List (Nat × Instr × Nat) := [(0, .iload_n 1, 1), (1, .ifCond .ne 8, 3), (4, .aload_n 0, 1), (5, .getfield 33, 3), (8, .areturn, 1), (9, .iload_n 1, 1), (10, .iconst 1, 1), (11, .if_icmp .ne 10, 3), (14, .aload_n 0, 1), (15, .getfield 36, 3), (18, .goto 4, 3), (21, .aconst_null, 1), (22, .areturn, 1)]
theorem tbX11_imageAt : vm_chk cX11_imageAt tlX11_imageAt = true := by decide +kernel
theorem dX11_imageAt_0 : vm_at cX11_imageAt 0 (.iload_n 1) 1 1 ∧ ((1 : Fin 4) : Nat) = 1 := ⟨⟨vm_row tbX11_imageAt 0 rfl, rfl⟩, rfl⟩
theorem dX11_imageAt_1 : vm_br cX11_imageAt 1 (.ifCond .ne 8) 3 4 (8) 9 := ⟨vm_row tbX11_imageAt 1 rfl, rfl, rfl⟩
theorem dX11_imageAt_4 : vm_at cX11_imageAt 4 (.aload_n 0) 1 5 ∧ ((0 : Fin 4) : Nat) = 0 := ⟨⟨vm_row tbX11_imageAt 2 rfl, rfl⟩, rfl⟩
theorem dX11_imageAt_5 : vm_at cX11_imageAt 5 (.getfield 33) 3 8 := ⟨vm_row tbX11_imageAt 3 rfl, rfl⟩
theorem dX11_imageAt_8 : vm_at cX11_imageAt 8 (.areturn) 1 9 := ⟨vm_row tbX11_imageAt 4 rfl, rfl⟩
theorem dX11_imageAt_9 : vm_at cX11_imageAt 9 (.iload_n 1) 1 10 ∧ ((1 : Fin 4) : Nat) = 1 := ⟨⟨vm_row tbX11_imageAt 5 rfl, rfl⟩, rfl⟩
theorem dX11_imageAt_10 : vm_at cX11_imageAt 10 (.iconst 1) 1 11 ∧ Int32.ofInt (1) = (1 : Int32) := ⟨⟨vm_row tbX11_imageAt 6 rfl, rfl⟩, z_iconst_1⟩
theorem dX11_imageAt_11 : vm_br cX11_imageAt 11 (.if_icmp .ne 10) 3 14 (10) 21 := ⟨vm_row tbX11_imageAt 7 rfl, rfl, rfl⟩
theorem dX11_imageAt_14 : vm_at cX11_imageAt 14 (.aload_n 0) 1 15 ∧ ((0 : Fin 4) : Nat) = 0 := ⟨⟨vm_row tbX11_imageAt 8 rfl, rfl⟩, rfl⟩
theorem dX11_imageAt_15 : vm_at cX11_imageAt 15 (.getfield 36) 3 18 := ⟨vm_row tbX11_imageAt 9 rfl, rfl⟩
theorem dX11_imageAt_18 : vm_br cX11_imageAt 18 (.goto 4) 3 21 (4) 22 := ⟨vm_row tbX11_imageAt 10 rfl, rfl, rfl⟩
theorem dX11_imageAt_21 : vm_at cX11_imageAt 21 (.aconst_null) 1 22 := ⟨vm_row tbX11_imageAt 11 rfl, rfl⟩
theorem dX11_imageAt_22 : vm_at cX11_imageAt 22 (.areturn) 1 23 := ⟨vm_row tbX11_imageAt 12 rfl, rfl⟩
def tlX11_stateChanged : List (Nat × Instr × Nat) := [(0, .aload_n 0, 1), (1, .getfield 58, 3), (4, .invokevirtual 294, 3), (7, .aload_n 0, 1), (8, .getfield 58, 3), (11, .invokevirtual 216, 3), (14, .aload_n 0, 1), (15, .getfield 65, 3), (18, .iconst 0, 1), (19, .putfield 297, 3), (22, .return_, 1)]
theorem tbX11_stateChanged : vm_chk cX11_stateChanged tlX11_stateChanged = true := by decide +kernel
theorem dX11_stateChanged_0 : vm_at cX11_stateChanged 0 (.aload_n 0) 1 1 ∧ ((0 : Fin 4) : Nat) = 0 := ⟨⟨vm_row tbX11_stateChanged 0 rfl, rfl⟩, rfl⟩
theorem dX11_stateChanged_1 : vm_at cX11_stateChanged 1 (.getfield 58) 3 4 := ⟨vm_row tbX11_stateChanged 1 rfl, rfl⟩
theorem dX11_stateChanged_4 : vm_at cX11_stateChanged 4 (.invokevirtual 294) 3 7 := ⟨vm_row tbX11_stateChanged 2 rfl, rfl⟩
theorem dX11_stateChanged_7 : vm_at cX11_stateChanged 7 (.aload_n 0) 1 8 ∧ ((0 : Fin 4) : Nat) = 0 := ⟨⟨vm_row tbX11_stateChanged 3 rfl, rfl⟩, rfl⟩
theorem dX11_stateChanged_8 : vm_at cX11_stateChanged 8 (.getfield 58) 3 11 := ⟨vm_row tbX11_stateChanged 4 rfl, rfl⟩
theorem dX11_stateChanged_11 : vm_at cX11_stateChanged 11 (.invokevirtual 216) 3 14 := ⟨vm_row tbX11_stateChanged 5 rfl, rfl⟩
theorem dX11_stateChanged_14 : vm_at cX11_stateChanged 14 (.aload_n 0) 1 15 ∧ ((0 : Fin 4) : Nat) = 0 := ⟨⟨vm_row tbX11_stateChanged 6 rfl, rfl⟩, rfl⟩
theorem dX11_stateChanged_15 : vm_at cX11_stateChanged 15 (.getfield 65) 3 18 := ⟨vm_row tbX11_stateChanged 7 rfl, rfl⟩
theorem dX11_stateChanged_18 : vm_at cX11_stateChanged 18 (.iconst 0) 1 19 ∧ Int32.ofInt (0) = (0 : Int32) := ⟨⟨vm_row tbX11_stateChanged 8 rfl, rfl⟩, z_iconst_0⟩
theorem dX11_stateChanged_19 : vm_at cX11_stateChanged 19 (.putfield 297) 3 22 := ⟨vm_row tbX11_stateChanged 9 rfl, rfl⟩
theorem dX11_stateChanged_22 : vm_at cX11_stateChanged 22 (.return_) 1 23 := ⟨vm_row tbX11_stateChanged 10 rfl, rfl⟩
def tlX11_shownIn : List (Nat × Instr × Nat) := [(0, .iload_n 0, 1), (1, .bipush 127, 2), (3, .iand, 1), (4, .ireturn, 1)]
theorem tbX11_shownIn : vm_chk cX11_shownIn tlX11_shownIn = true := by decide +kernel
theorem dX11_shownIn_0 : vm_at cX11_shownIn 0 (.iload_n 0) 1 1 ∧ ((0 : Fin 4) : Nat) = 0 := ⟨⟨vm_row tbX11_shownIn 0 rfl, rfl⟩, rfl⟩
theorem dX11_shownIn_1 : vm_at cX11_shownIn 1 (.bipush 127) 2 3 ∧ (Int8.ofInt (127)).toInt32 = (127 : Int32) := ⟨⟨vm_row tbX11_shownIn 1 rfl, rfl⟩, z_bipush_127⟩
theorem dX11_shownIn_3 : vm_at cX11_shownIn 3 (.iand) 1 4 := ⟨vm_row tbX11_shownIn 2 rfl, rfl⟩
theorem dX11_shownIn_4 : vm_at cX11_shownIn 4 (.ireturn) 1 5 := ⟨vm_row tbX11_shownIn 3 rfl, rfl⟩
def tlX11_heldIn : List (Nat × Instr × Nat) := [(0, .iload_n 0, 1), (1, .bipush 7, 2), (3, .ishr, 1), (4, .bipush 127, 2), (6, .iand, 1), (7, .ireturn, 1)]
theorem tbX11_heldIn : vm_chk cX11_heldIn tlX11_heldIn = true := by decide +kernel
theorem dX11_heldIn_0 : vm_at cX11_heldIn 0 (.iload_n 0) 1 1 ∧ ((0 : Fin 4) : Nat) = 0 := ⟨⟨vm_row tbX11_heldIn 0 rfl, rfl⟩, rfl⟩
theorem dX11_heldIn_1 : vm_at cX11_heldIn 1 (.bipush 7) 2 3 ∧ (Int8.ofInt (7)).toInt32 = (7 : Int32) := ⟨⟨vm_row tbX11_heldIn 1 rfl, rfl⟩, z_bipush_7⟩
theorem dX11_heldIn_3 : vm_at cX11_heldIn 3 (.ishr) 1 4 := ⟨vm_row tbX11_heldIn 2 rfl, rfl⟩
theorem dX11_heldIn_4 : vm_at cX11_heldIn 4 (.bipush 127) 2 6 ∧ (Int8.ofInt (127)).toInt32 = (127 : Int32) := ⟨⟨vm_row tbX11_heldIn 3 rfl, rfl⟩, z_bipush_127⟩
theorem dX11_heldIn_6 : vm_at cX11_heldIn 6 (.iand) 1 7 := ⟨vm_row tbX11_heldIn 4 rfl, rfl⟩
theorem dX11_heldIn_7 : vm_at cX11_heldIn 7 (.ireturn) 1 8 := ⟨vm_row tbX11_heldIn 5 rfl, rfl⟩
def tlX11_signIn : List (Nat × Instr × Nat) := [(0, .iload_n 0, 1), (1, .bipush 14, 2), (3, .ishr, 1), (4, .iconst 3, 1), (5, .iand, 1), (6, .ireturn, 1)]
theorem tbX11_signIn : vm_chk cX11_signIn tlX11_signIn = true := by decide +kernel
theorem dX11_signIn_0 : vm_at cX11_signIn 0 (.iload_n 0) 1 1 ∧ ((0 : Fin 4) : Nat) = 0 := ⟨⟨vm_row tbX11_signIn 0 rfl, rfl⟩, rfl⟩
theorem dX11_signIn_1 : vm_at cX11_signIn 1 (.bipush 14) 2 3 ∧ (Int8.ofInt (14)).toInt32 = (14 : Int32) := ⟨⟨vm_row tbX11_signIn 1 rfl, rfl⟩, z_bipush_14⟩
theorem dX11_signIn_3 : vm_at cX11_signIn 3 (.ishr) 1 4 := ⟨vm_row tbX11_signIn 2 rfl, rfl⟩
theorem dX11_signIn_4 : vm_at cX11_signIn 4 (.iconst 3) 1 5 ∧ Int32.ofInt (3) = (3 : Int32) := ⟨⟨vm_row tbX11_signIn 3 rfl, rfl⟩, z_iconst_3⟩
theorem dX11_signIn_5 : vm_at cX11_signIn 5 (.iand) 1 6 := ⟨vm_row tbX11_signIn 4 rfl, rfl⟩
theorem dX11_signIn_6 : vm_at cX11_signIn 6 (.ireturn) 1 7 := ⟨vm_row tbX11_signIn 5 rfl, rfl⟩
def tlX11_isTyped : List (Nat × Instr × Nat) := [(0, .iload_n 0, 1), (1, .ldc_w 300, 3), (4, .iand, 1), (5, .ifCond .eq 7, 3), (8, .iconst 1, 1), (9, .goto 4, 3), (12, .iconst 0, 1), (13, .ireturn, 1)]
theorem tbX11_isTyped : vm_chk cX11_isTyped tlX11_isTyped = true := by decide +kernel
theorem dX11_isTyped_0 : vm_at cX11_isTyped 0 (.iload_n 0) 1 1 ∧ ((0 : Fin 4) : Nat) = 0 := ⟨⟨vm_row tbX11_isTyped 0 rfl, rfl⟩, rfl⟩
theorem dX11_isTyped_1 : vm_at cX11_isTyped 1 (.ldc_w 300) 3 4 := ⟨vm_row tbX11_isTyped 1 rfl, rfl⟩
theorem dX11_isTyped_4 : vm_at cX11_isTyped 4 (.iand) 1 5 := ⟨vm_row tbX11_isTyped 2 rfl, rfl⟩
theorem dX11_isTyped_5 : vm_br cX11_isTyped 5 (.ifCond .eq 7) 3 8 (7) 12 := ⟨vm_row tbX11_isTyped 3 rfl, rfl, rfl⟩
theorem dX11_isTyped_8 : vm_at cX11_isTyped 8 (.iconst 1) 1 9 ∧ Int32.ofInt (1) = (1 : Int32) := ⟨⟨vm_row tbX11_isTyped 4 rfl, rfl⟩, z_iconst_1⟩
theorem dX11_isTyped_9 : vm_br cX11_isTyped 9 (.goto 4) 3 12 (4) 13 := ⟨vm_row tbX11_isTyped 5 rfl, rfl, rfl⟩
theorem dX11_isTyped_12 : vm_at cX11_isTyped 12 (.iconst 0) 1 13 ∧ Int32.ofInt (0) = (0 : Int32) := ⟨⟨vm_row tbX11_isTyped 6 rfl, rfl⟩, z_iconst_0⟩
theorem dX11_isTyped_13 : vm_at cX11_isTyped 13 (.ireturn) 1 14 := ⟨vm_row tbX11_isTyped 7 rfl, rfl⟩
def tlX11_at : List (Nat × Instr × Nat) := [(0, .iload_n 1, 1), (1, .ifCond .lt 15, 3), (4, .iload_n 1, 1), (5, .aload_n 0, 1), (6, .arraylength, 1), (7, .if_icmp .ge 9, 3), (10, .aload_n 0, 1), (11, .iload_n 1, 1), (12, .iaload, 1), (13, .goto 4, 3), (16, .iconst (-1), 1), (17, .ireturn, 1)]
theorem tbX11_at : vm_chk cX11_at tlX11_at = true := by decide +kernel
theorem dX11_at_0 : vm_at cX11_at 0 (.iload_n 1) 1 1 ∧ ((1 : Fin 4) : Nat) = 1 := ⟨⟨vm_row tbX11_at 0 rfl, rfl⟩, rfl⟩
theorem dX11_at_1 : vm_br cX11_at 1 (.ifCond .lt 15) 3 4 (15) 16 := ⟨vm_row tbX11_at 1 rfl, rfl, rfl⟩
theorem dX11_at_4 : vm_at cX11_at 4 (.iload_n 1) 1 5 ∧ ((1 : Fin 4) : Nat) = 1 := ⟨⟨vm_row tbX11_at 2 rfl, rfl⟩, rfl⟩
theorem dX11_at_5 : vm_at cX11_at 5 (.aload_n 0) 1 6 ∧ ((0 : Fin 4) : Nat) = 0 := ⟨⟨vm_row tbX11_at 3 rfl, rfl⟩, rfl⟩
theorem dX11_at_6 : vm_at cX11_at 6 (.arraylength) 1 7 := ⟨vm_row tbX11_at 4 rfl, rfl⟩
theorem dX11_at_7 : vm_br cX11_at 7 (.if_icmp .ge 9) 3 10 (9) 16 := ⟨vm_row tbX11_at 5 rfl, rfl, rfl⟩
theorem dX11_at_10 : vm_at cX11_at 10 (.aload_n 0) 1 11 ∧ ((0 : Fin 4) : Nat) = 0 := ⟨⟨vm_row tbX11_at 6 rfl, rfl⟩, rfl⟩
theorem dX11_at_11 : vm_at cX11_at 11 (.iload_n 1) 1 12 ∧ ((1 : Fin 4) : Nat) = 1 := ⟨⟨vm_row tbX11_at 7 rfl, rfl⟩, rfl⟩
theorem dX11_at_12 : vm_at cX11_at 12 (.iaload) 1 13 := ⟨vm_row tbX11_at 8 rfl, rfl⟩
theorem dX11_at_13 : vm_br cX11_at 13 (.goto 4) 3 16 (4) 17 := ⟨vm_row tbX11_at 9 rfl, rfl, rfl⟩
theorem dX11_at_16 : vm_at cX11_at 16 (.iconst (-1)) 1 17 ∧ Int32.ofInt (-1) = (-1 : Int32) := ⟨⟨vm_row tbX11_at 10 rfl, rfl⟩, z_iconst_m1⟩
theorem dX11_at_17 : vm_at cX11_at 17 (.ireturn) 1 18 := ⟨vm_row tbX11_at 11 rfl, rfl⟩
def tlX11_put : List (Nat × Instr × Nat) := [(0, .iload_n 1, 1), (1, .ifCond .lt 13, 3), (4, .iload_n 1, 1), (5, .aload_n 0, 1), (6, .arraylength, 1), (7, .if_icmp .ge 7, 3), (10, .aload_n 0, 1), (11, .iload_n 1, 1), (12, .iload_n 2, 1), (13, .iastore, 1), (14, .return_, 1)]
theorem tbX11_put : vm_chk cX11_put tlX11_put = true := by decide +kernel
theorem dX11_put_0 : vm_at cX11_put 0 (.iload_n 1) 1 1 ∧ ((1 : Fin 4) : Nat) = 1 := ⟨⟨vm_row tbX11_put 0 rfl, rfl⟩, rfl⟩
theorem dX11_put_1 : vm_br cX11_put 1 (.ifCond .lt 13) 3 4 (13) 14 := ⟨vm_row tbX11_put 1 rfl, rfl, rfl⟩
theorem dX11_put_4 : vm_at cX11_put 4 (.iload_n 1) 1 5 ∧ ((1 : Fin 4) : Nat) = 1 := ⟨⟨vm_row tbX11_put 2 rfl, rfl⟩, rfl⟩
theorem dX11_put_5 : vm_at cX11_put 5 (.aload_n 0) 1 6 ∧ ((0 : Fin 4) : Nat) = 0 := ⟨⟨vm_row tbX11_put 3 rfl, rfl⟩, rfl⟩
theorem dX11_put_6 : vm_at cX11_put 6 (.arraylength) 1 7 := ⟨vm_row tbX11_put 4 rfl, rfl⟩
theorem dX11_put_7 : vm_br cX11_put 7 (.if_icmp .ge 7) 3 10 (7) 14 := ⟨vm_row tbX11_put 5 rfl, rfl, rfl⟩
theorem dX11_put_10 : vm_at cX11_put 10 (.aload_n 0) 1 11 ∧ ((0 : Fin 4) : Nat) = 0 := ⟨⟨vm_row tbX11_put 6 rfl, rfl⟩, rfl⟩
theorem dX11_put_11 : vm_at cX11_put 11 (.iload_n 1) 1 12 ∧ ((1 : Fin 4) : Nat) = 1 := ⟨⟨vm_row tbX11_put 7 rfl, rfl⟩, rfl⟩
theorem dX11_put_12 : vm_at cX11_put 12 (.iload_n 2) 1 13 ∧ ((2 : Fin 4) : Nat) = 2 := ⟨⟨vm_row tbX11_put 8 rfl, rfl⟩, rfl⟩
theorem dX11_put_13 : vm_at cX11_put 13 (.iastore) 1 14 := ⟨vm_row tbX11_put 9 rfl, rfl⟩
theorem dX11_put_14 : vm_at cX11_put 14 (.return_) 1 15 := ⟨vm_row tbX11_put 10 rfl, rfl⟩
def tlJ6_bitCount_0f7a4 : List (Nat × Instr × Nat) := [(0, .iload_n 0, 1), (1, .iload_n 0, 1), (2, .iconst 1, 1), (3, .iushr, 1), (4, .ldc_w 265, 3), (7, .iand, 1), (8, .isub, 1), (9, .istore_n 0, 1), (10, .iload_n 0, 1), (11, .ldc_w 266, 3), (14, .iand, 1), (15, .iload_n 0, 1), (16, .iconst 2, 1), (17, .iushr, 1), (18, .ldc_w 266, 3), (21, .iand, 1), (22, .iadd, 1), (23, .istore_n 0, 1), (24, .iload_n 0, 1), (25, .iload_n 0, 1), (26, .iconst 4, 1), (27, .iushr, 1), (28, .iadd, 1), (29, .ldc_w 267, 3), (32, .iand, 1), (33, .istore_n 0, 1), (34, .iload_n 0, 1), (35, .iload_n 0, 1), (36, .bipush 8, 2), (38, .iushr, 1), (39, .iadd, 1), (40, .istore_n 0, 1), (41, .iload_n 0, 1), (42, .iload_n 0, 1), (43, .bipush 16, 2), (45, .iushr, 1), (46, .iadd, 1), (47, .istore_n 0, 1), (48, .iload_n 0, 1), (49, .bipush 63, 2), (51, .iand, 1), (52, .ireturn, 1)]
theorem tbJ6_bitCount_0f7a4 : vm_chk cJ6_bitCount_0f7a4 tlJ6_bitCount_0f7a4 = true := by decide +kernel
theorem dJ6_bitCount_0f7a4_0 : vm_at cJ6_bitCount_0f7a4 0 (.iload_n 0) 1 1 ∧ ((0 : Fin 4) : Nat) = 0 := ⟨⟨vm_row tbJ6_bitCount_0f7a4 0 rfl, rfl⟩, rfl⟩
theorem dJ6_bitCount_0f7a4_1 : vm_at cJ6_bitCount_0f7a4 1 (.iload_n 0) 1 2 ∧ ((0 : Fin 4) : Nat) = 0 := ⟨⟨vm_row tbJ6_bitCount_0f7a4 1 rfl, rfl⟩, rfl⟩
theorem dJ6_bitCount_0f7a4_2 : vm_at cJ6_bitCount_0f7a4 2 (.iconst 1) 1 3 ∧ Int32.ofInt (1) = (1 : Int32) := ⟨⟨vm_row tbJ6_bitCount_0f7a4 2 rfl, rfl⟩, z_iconst_1⟩
theorem dJ6_bitCount_0f7a4_3 : vm_at cJ6_bitCount_0f7a4 3 (.iushr) 1 4 := ⟨vm_row tbJ6_bitCount_0f7a4 3 rfl, rfl⟩
theorem dJ6_bitCount_0f7a4_4 : vm_at cJ6_bitCount_0f7a4 4 (.ldc_w 265) 3 7 := ⟨vm_row tbJ6_bitCount_0f7a4 4 rfl, rfl⟩
theorem dJ6_bitCount_0f7a4_7 : vm_at cJ6_bitCount_0f7a4 7 (.iand) 1 8 := ⟨vm_row tbJ6_bitCount_0f7a4 5 rfl, rfl⟩
theorem dJ6_bitCount_0f7a4_8 : vm_at cJ6_bitCount_0f7a4 8 (.isub) 1 9 := ⟨vm_row tbJ6_bitCount_0f7a4 6 rfl, rfl⟩
theorem dJ6_bitCount_0f7a4_9 : vm_at cJ6_bitCount_0f7a4 9 (.istore_n 0) 1 10 ∧ ((0 : Fin 4) : Nat) = 0 := ⟨⟨vm_row tbJ6_bitCount_0f7a4 7 rfl, rfl⟩, rfl⟩
theorem dJ6_bitCount_0f7a4_10 : vm_at cJ6_bitCount_0f7a4 10 (.iload_n 0) 1 11 ∧ ((0 : Fin 4) : Nat) = 0 := ⟨⟨vm_row tbJ6_bitCount_0f7a4 8 rfl, rfl⟩, rfl⟩
theorem dJ6_bitCount_0f7a4_11 : vm_at cJ6_bitCount_0f7a4 11 (.ldc_w 266) 3 14 := ⟨vm_row tbJ6_bitCount_0f7a4 9 rfl, rfl⟩
theorem dJ6_bitCount_0f7a4_14 : vm_at cJ6_bitCount_0f7a4 14 (.iand) 1 15 := ⟨vm_row tbJ6_bitCount_0f7a4 10 rfl, rfl⟩
theorem dJ6_bitCount_0f7a4_15 : vm_at cJ6_bitCount_0f7a4 15 (.iload_n 0) 1 16 ∧ ((0 : Fin 4) : Nat) = 0 := ⟨⟨vm_row tbJ6_bitCount_0f7a4 11 rfl, rfl⟩, rfl⟩
theorem dJ6_bitCount_0f7a4_16 : vm_at cJ6_bitCount_0f7a4 16 (.iconst 2) 1 17 ∧ Int32.ofInt (2) = (2 : Int32) := ⟨⟨vm_row tbJ6_bitCount_0f7a4 12 rfl, rfl⟩, z_iconst_2⟩
theorem dJ6_bitCount_0f7a4_17 : vm_at cJ6_bitCount_0f7a4 17 (.iushr) 1 18 := ⟨vm_row tbJ6_bitCount_0f7a4 13 rfl, rfl⟩
theorem dJ6_bitCount_0f7a4_18 : vm_at cJ6_bitCount_0f7a4 18 (.ldc_w 266) 3 21 := ⟨vm_row tbJ6_bitCount_0f7a4 14 rfl, rfl⟩
theorem dJ6_bitCount_0f7a4_21 : vm_at cJ6_bitCount_0f7a4 21 (.iand) 1 22 := ⟨vm_row tbJ6_bitCount_0f7a4 15 rfl, rfl⟩
theorem dJ6_bitCount_0f7a4_22 : vm_at cJ6_bitCount_0f7a4 22 (.iadd) 1 23 := ⟨vm_row tbJ6_bitCount_0f7a4 16 rfl, rfl⟩
theorem dJ6_bitCount_0f7a4_23 : vm_at cJ6_bitCount_0f7a4 23 (.istore_n 0) 1 24 ∧ ((0 : Fin 4) : Nat) = 0 := ⟨⟨vm_row tbJ6_bitCount_0f7a4 17 rfl, rfl⟩, rfl⟩
theorem dJ6_bitCount_0f7a4_24 : vm_at cJ6_bitCount_0f7a4 24 (.iload_n 0) 1 25 ∧ ((0 : Fin 4) : Nat) = 0 := ⟨⟨vm_row tbJ6_bitCount_0f7a4 18 rfl, rfl⟩, rfl⟩
theorem dJ6_bitCount_0f7a4_25 : vm_at cJ6_bitCount_0f7a4 25 (.iload_n 0) 1 26 ∧ ((0 : Fin 4) : Nat) = 0 := ⟨⟨vm_row tbJ6_bitCount_0f7a4 19 rfl, rfl⟩, rfl⟩
theorem dJ6_bitCount_0f7a4_26 : vm_at cJ6_bitCount_0f7a4 26 (.iconst 4) 1 27 ∧ Int32.ofInt (4) = (4 : Int32) := ⟨⟨vm_row tbJ6_bitCount_0f7a4 20 rfl, rfl⟩, z_iconst_4⟩
theorem dJ6_bitCount_0f7a4_27 : vm_at cJ6_bitCount_0f7a4 27 (.iushr) 1 28 := ⟨vm_row tbJ6_bitCount_0f7a4 21 rfl, rfl⟩
theorem dJ6_bitCount_0f7a4_28 : vm_at cJ6_bitCount_0f7a4 28 (.iadd) 1 29 := ⟨vm_row tbJ6_bitCount_0f7a4 22 rfl, rfl⟩
theorem dJ6_bitCount_0f7a4_29 : vm_at cJ6_bitCount_0f7a4 29 (.ldc_w 267) 3 32 := ⟨vm_row tbJ6_bitCount_0f7a4 23 rfl, rfl⟩
theorem dJ6_bitCount_0f7a4_32 : vm_at cJ6_bitCount_0f7a4 32 (.iand) 1 33 := ⟨vm_row tbJ6_bitCount_0f7a4 24 rfl, rfl⟩
theorem dJ6_bitCount_0f7a4_33 : vm_at cJ6_bitCount_0f7a4 33 (.istore_n 0) 1 34 ∧ ((0 : Fin 4) : Nat) = 0 := ⟨⟨vm_row tbJ6_bitCount_0f7a4 25 rfl, rfl⟩, rfl⟩
theorem dJ6_bitCount_0f7a4_34 : vm_at cJ6_bitCount_0f7a4 34 (.iload_n 0) 1 35 ∧ ((0 : Fin 4) : Nat) = 0 := ⟨⟨vm_row tbJ6_bitCount_0f7a4 26 rfl, rfl⟩, rfl⟩
theorem dJ6_bitCount_0f7a4_35 : vm_at cJ6_bitCount_0f7a4 35 (.iload_n 0) 1 36 ∧ ((0 : Fin 4) : Nat) = 0 := ⟨⟨vm_row tbJ6_bitCount_0f7a4 27 rfl, rfl⟩, rfl⟩
theorem dJ6_bitCount_0f7a4_36 : vm_at cJ6_bitCount_0f7a4 36 (.bipush 8) 2 38 ∧ (Int8.ofInt (8)).toInt32 = (8 : Int32) := ⟨⟨vm_row tbJ6_bitCount_0f7a4 28 rfl, rfl⟩, z_bipush_8⟩
theorem dJ6_bitCount_0f7a4_38 : vm_at cJ6_bitCount_0f7a4 38 (.iushr) 1 39 := ⟨vm_row tbJ6_bitCount_0f7a4 29 rfl, rfl⟩
theorem dJ6_bitCount_0f7a4_39 : vm_at cJ6_bitCount_0f7a4 39 (.iadd) 1 40 := ⟨vm_row tbJ6_bitCount_0f7a4 30 rfl, rfl⟩
theorem dJ6_bitCount_0f7a4_40 : vm_at cJ6_bitCount_0f7a4 40 (.istore_n 0) 1 41 ∧ ((0 : Fin 4) : Nat) = 0 := ⟨⟨vm_row tbJ6_bitCount_0f7a4 31 rfl, rfl⟩, rfl⟩
theorem dJ6_bitCount_0f7a4_41 : vm_at cJ6_bitCount_0f7a4 41 (.iload_n 0) 1 42 ∧ ((0 : Fin 4) : Nat) = 0 := ⟨⟨vm_row tbJ6_bitCount_0f7a4 32 rfl, rfl⟩, rfl⟩
theorem dJ6_bitCount_0f7a4_42 : vm_at cJ6_bitCount_0f7a4 42 (.iload_n 0) 1 43 ∧ ((0 : Fin 4) : Nat) = 0 := ⟨⟨vm_row tbJ6_bitCount_0f7a4 33 rfl, rfl⟩, rfl⟩
theorem dJ6_bitCount_0f7a4_43 : vm_at cJ6_bitCount_0f7a4 43 (.bipush 16) 2 45 ∧ (Int8.ofInt (16)).toInt32 = (16 : Int32) := ⟨⟨vm_row tbJ6_bitCount_0f7a4 34 rfl, rfl⟩, z_bipush_16⟩
theorem dJ6_bitCount_0f7a4_45 : vm_at cJ6_bitCount_0f7a4 45 (.iushr) 1 46 := ⟨vm_row tbJ6_bitCount_0f7a4 35 rfl, rfl⟩
theorem dJ6_bitCount_0f7a4_46 : vm_at cJ6_bitCount_0f7a4 46 (.iadd) 1 47 := ⟨vm_row tbJ6_bitCount_0f7a4 36 rfl, rfl⟩
theorem dJ6_bitCount_0f7a4_47 : vm_at cJ6_bitCount_0f7a4 47 (.istore_n 0) 1 48 ∧ ((0 : Fin 4) : Nat) = 0 := ⟨⟨vm_row tbJ6_bitCount_0f7a4 37 rfl, rfl⟩, rfl⟩
theorem dJ6_bitCount_0f7a4_48 : vm_at cJ6_bitCount_0f7a4 48 (.iload_n 0) 1 49 ∧ ((0 : Fin 4) : Nat) = 0 := ⟨⟨vm_row tbJ6_bitCount_0f7a4 38 rfl, rfl⟩, rfl⟩
theorem dJ6_bitCount_0f7a4_49 : vm_at cJ6_bitCount_0f7a4 49 (.bipush 63) 2 51 ∧ (Int8.ofInt (63)).toInt32 = (63 : Int32) := ⟨⟨vm_row tbJ6_bitCount_0f7a4 39 rfl, rfl⟩, z_bipush_63⟩
theorem dJ6_bitCount_0f7a4_51 : vm_at cJ6_bitCount_0f7a4 51 (.iand) 1 52 := ⟨vm_row tbJ6_bitCount_0f7a4 40 rfl, rfl⟩
theorem dJ6_bitCount_0f7a4_52 : vm_at cJ6_bitCount_0f7a4 52 (.ireturn) 1 53 := ⟨vm_row tbJ6_bitCount_0f7a4 41 rfl, rfl⟩
def tlJ9_floorMod_7cf53 : List (Nat × Instr × Nat) := [(0, .iload_n 0, 1), (1, .iload_n 1, 1), (2, .irem, 1), (3, .istore_n 2, 1), (4, .iload_n 0, 1), (5, .iload_n 1, 1), (6, .ixor, 1), (7, .ifCond .ge 11, 3), (10, .iload_n 2, 1), (11, .ifCond .eq 7, 3), (14, .iload_n 2, 1), (15, .iload_n 1, 1), (16, .iadd, 1), (17, .ireturn, 1), (18, .iload_n 2, 1), (19, .ireturn, 1)]
theorem tbJ9_floorMod_7cf53 : vm_chk cJ9_floorMod_7cf53 tlJ9_floorMod_7cf53 = true := by decide +kernel
theorem dJ9_floorMod_7cf53_0 : vm_at cJ9_floorMod_7cf53 0 (.iload_n 0) 1 1 ∧ ((0 : Fin 4) : Nat) = 0 := ⟨⟨vm_row tbJ9_floorMod_7cf53 0 rfl, rfl⟩, rfl⟩
theorem dJ9_floorMod_7cf53_1 : vm_at cJ9_floorMod_7cf53 1 (.iload_n 1) 1 2 ∧ ((1 : Fin 4) : Nat) = 1 := ⟨⟨vm_row tbJ9_floorMod_7cf53 1 rfl, rfl⟩, rfl⟩
theorem dJ9_floorMod_7cf53_2 : vm_at cJ9_floorMod_7cf53 2 (.irem) 1 3 := ⟨vm_row tbJ9_floorMod_7cf53 2 rfl, rfl⟩
theorem dJ9_floorMod_7cf53_3 : vm_at cJ9_floorMod_7cf53 3 (.istore_n 2) 1 4 ∧ ((2 : Fin 4) : Nat) = 2 := ⟨⟨vm_row tbJ9_floorMod_7cf53 3 rfl, rfl⟩, rfl⟩
theorem dJ9_floorMod_7cf53_4 : vm_at cJ9_floorMod_7cf53 4 (.iload_n 0) 1 5 ∧ ((0 : Fin 4) : Nat) = 0 := ⟨⟨vm_row tbJ9_floorMod_7cf53 4 rfl, rfl⟩, rfl⟩
theorem dJ9_floorMod_7cf53_5 : vm_at cJ9_floorMod_7cf53 5 (.iload_n 1) 1 6 ∧ ((1 : Fin 4) : Nat) = 1 := ⟨⟨vm_row tbJ9_floorMod_7cf53 5 rfl, rfl⟩, rfl⟩
theorem dJ9_floorMod_7cf53_6 : vm_at cJ9_floorMod_7cf53 6 (.ixor) 1 7 := ⟨vm_row tbJ9_floorMod_7cf53 6 rfl, rfl⟩
theorem dJ9_floorMod_7cf53_7 : vm_br cJ9_floorMod_7cf53 7 (.ifCond .ge 11) 3 10 (11) 18 := ⟨vm_row tbJ9_floorMod_7cf53 7 rfl, rfl, rfl⟩
theorem dJ9_floorMod_7cf53_10 : vm_at cJ9_floorMod_7cf53 10 (.iload_n 2) 1 11 ∧ ((2 : Fin 4) : Nat) = 2 := ⟨⟨vm_row tbJ9_floorMod_7cf53 8 rfl, rfl⟩, rfl⟩
theorem dJ9_floorMod_7cf53_11 : vm_br cJ9_floorMod_7cf53 11 (.ifCond .eq 7) 3 14 (7) 18 := ⟨vm_row tbJ9_floorMod_7cf53 9 rfl, rfl, rfl⟩
theorem dJ9_floorMod_7cf53_14 : vm_at cJ9_floorMod_7cf53 14 (.iload_n 2) 1 15 ∧ ((2 : Fin 4) : Nat) = 2 := ⟨⟨vm_row tbJ9_floorMod_7cf53 10 rfl, rfl⟩, rfl⟩
theorem dJ9_floorMod_7cf53_15 : vm_at cJ9_floorMod_7cf53 15 (.iload_n 1) 1 16 ∧ ((1 : Fin 4) : Nat) = 1 := ⟨⟨vm_row tbJ9_floorMod_7cf53 11 rfl, rfl⟩, rfl⟩
theorem dJ9_floorMod_7cf53_16 : vm_at cJ9_floorMod_7cf53 16 (.iadd) 1 17 := ⟨vm_row tbJ9_floorMod_7cf53 12 rfl, rfl⟩
theorem dJ9_floorMod_7cf53_17 : vm_at cJ9_floorMod_7cf53 17 (.ireturn) 1 18 := ⟨vm_row tbJ9_floorMod_7cf53 13 rfl, rfl⟩
theorem dJ9_floorMod_7cf53_18 : vm_at cJ9_floorMod_7cf53 18 (.iload_n 2) 1 19 ∧ ((2 : Fin 4) : Nat) = 2 := ⟨⟨vm_row tbJ9_floorMod_7cf53 14 rfl, rfl⟩, rfl⟩
theorem dJ9_floorMod_7cf53_19 : vm_at cJ9_floorMod_7cf53 19 (.ireturn) 1 20 := ⟨vm_row tbJ9_floorMod_7cf53 15 rfl, rfl⟩
def tlJ9_abs_0f7a4 : List (Nat × Instr × Nat) := [(0, .iload_n 0, 1), (1, .ifCond .ge 8, 3), (4, .iload_n 0, 1), (5, .ineg, 1), (6, .goto 4, 3), (9, .iload_n 0, 1), (10, .ireturn, 1)]
theorem tbJ9_abs_0f7a4 : vm_chk cJ9_abs_0f7a4 tlJ9_abs_0f7a4 = true := by decide +kernel
theorem dJ9_abs_0f7a4_0 : vm_at cJ9_abs_0f7a4 0 (.iload_n 0) 1 1 ∧ ((0 : Fin 4) : Nat) = 0 := ⟨⟨vm_row tbJ9_abs_0f7a4 0 rfl, rfl⟩, rfl⟩
theorem dJ9_abs_0f7a4_1 : vm_br cJ9_abs_0f7a4 1 (.ifCond .ge 8) 3 4 (8) 9 := ⟨vm_row tbJ9_abs_0f7a4 1 rfl, rfl, rfl⟩
theorem dJ9_abs_0f7a4_4 : vm_at cJ9_abs_0f7a4 4 (.iload_n 0) 1 5 ∧ ((0 : Fin 4) : Nat) = 0 := ⟨⟨vm_row tbJ9_abs_0f7a4 2 rfl, rfl⟩, rfl⟩
theorem dJ9_abs_0f7a4_5 : vm_at cJ9_abs_0f7a4 5 (.ineg) 1 6 := ⟨vm_row tbJ9_abs_0f7a4 3 rfl, rfl⟩
theorem dJ9_abs_0f7a4_6 : vm_br cJ9_abs_0f7a4 6 (.goto 4) 3 9 (4) 10 := ⟨vm_row tbJ9_abs_0f7a4 4 rfl, rfl, rfl⟩
theorem dJ9_abs_0f7a4_9 : vm_at cJ9_abs_0f7a4 9 (.iload_n 0) 1 10 ∧ ((0 : Fin 4) : Nat) = 0 := ⟨⟨vm_row tbJ9_abs_0f7a4 5 rfl, rfl⟩, rfl⟩
theorem dJ9_abs_0f7a4_10 : vm_at cJ9_abs_0f7a4 10 (.ireturn) 1 11 := ⟨vm_row tbJ9_abs_0f7a4 6 rfl, rfl⟩
def tlJ9_max_7cf53 : List (Nat × Instr × Nat) := [(0, .iload_n 0, 1), (1, .iload_n 1, 1), (2, .if_icmp .lt 7, 3), (5, .iload_n 0, 1), (6, .goto 4, 3), (9, .iload_n 1, 1), (10, .ireturn, 1)]
theorem tbJ9_max_7cf53 : vm_chk cJ9_max_7cf53 tlJ9_max_7cf53 = true := by decide +kernel
theorem dJ9_max_7cf53_0 : vm_at cJ9_max_7cf53 0 (.iload_n 0) 1 1 ∧ ((0 : Fin 4) : Nat) = 0 := ⟨⟨vm_row tbJ9_max_7cf53 0 rfl, rfl⟩, rfl⟩
theorem dJ9_max_7cf53_1 : vm_at cJ9_max_7cf53 1 (.iload_n 1) 1 2 ∧ ((1 : Fin 4) : Nat) = 1 := ⟨⟨vm_row tbJ9_max_7cf53 1 rfl, rfl⟩, rfl⟩
theorem dJ9_max_7cf53_2 : vm_br cJ9_max_7cf53 2 (.if_icmp .lt 7) 3 5 (7) 9 := ⟨vm_row tbJ9_max_7cf53 2 rfl, rfl, rfl⟩
theorem dJ9_max_7cf53_5 : vm_at cJ9_max_7cf53 5 (.iload_n 0) 1 6 ∧ ((0 : Fin 4) : Nat) = 0 := ⟨⟨vm_row tbJ9_max_7cf53 3 rfl, rfl⟩, rfl⟩
theorem dJ9_max_7cf53_6 : vm_br cJ9_max_7cf53 6 (.goto 4) 3 9 (4) 10 := ⟨vm_row tbJ9_max_7cf53 4 rfl, rfl, rfl⟩
theorem dJ9_max_7cf53_9 : vm_at cJ9_max_7cf53 9 (.iload_n 1) 1 10 ∧ ((1 : Fin 4) : Nat) = 1 := ⟨⟨vm_row tbJ9_max_7cf53 5 rfl, rfl⟩, rfl⟩
theorem dJ9_max_7cf53_10 : vm_at cJ9_max_7cf53 10 (.ireturn) 1 11 := ⟨vm_row tbJ9_max_7cf53 6 rfl, rfl⟩
def tlJ9_min_7cf53 : List (Nat × Instr × Nat) := [(0, .iload_n 0, 1), (1, .iload_n 1, 1), (2, .if_icmp .gt 7, 3), (5, .iload_n 0, 1), (6, .goto 4, 3), (9, .iload_n 1, 1), (10, .ireturn, 1)]
theorem tbJ9_min_7cf53 : vm_chk cJ9_min_7cf53 tlJ9_min_7cf53 = true := by decide +kernel
theorem dJ9_min_7cf53_0 : vm_at cJ9_min_7cf53 0 (.iload_n 0) 1 1 ∧ ((0 : Fin 4) : Nat) = 0 := ⟨⟨vm_row tbJ9_min_7cf53 0 rfl, rfl⟩, rfl⟩
theorem dJ9_min_7cf53_1 : vm_at cJ9_min_7cf53 1 (.iload_n 1) 1 2 ∧ ((1 : Fin 4) : Nat) = 1 := ⟨⟨vm_row tbJ9_min_7cf53 1 rfl, rfl⟩, rfl⟩
theorem dJ9_min_7cf53_2 : vm_br cJ9_min_7cf53 2 (.if_icmp .gt 7) 3 5 (7) 9 := ⟨vm_row tbJ9_min_7cf53 2 rfl, rfl, rfl⟩
theorem dJ9_min_7cf53_5 : vm_at cJ9_min_7cf53 5 (.iload_n 0) 1 6 ∧ ((0 : Fin 4) : Nat) = 0 := ⟨⟨vm_row tbJ9_min_7cf53 3 rfl, rfl⟩, rfl⟩
theorem dJ9_min_7cf53_6 : vm_br cJ9_min_7cf53 6 (.goto 4) 3 9 (4) 10 := ⟨vm_row tbJ9_min_7cf53 4 rfl, rfl, rfl⟩
theorem dJ9_min_7cf53_9 : vm_at cJ9_min_7cf53 9 (.iload_n 1) 1 10 ∧ ((1 : Fin 4) : Nat) = 1 := ⟨⟨vm_row tbJ9_min_7cf53 5 rfl, rfl⟩, rfl⟩
theorem dJ9_min_7cf53_10 : vm_at cJ9_min_7cf53 10 (.ireturn) 1 11 := ⟨vm_row tbJ9_min_7cf53 6 rfl, rfl⟩
def tlJ0_length_8abf5 : List (Nat × Instr × Nat) := [(0, .aload_n 0, 1), (1, .getfield 9, 3), (4, .arraylength, 1), (5, .aload_n 0, 1), (6, .invokevirtual 335, 3), (9, .ishr, 1), (10, .ireturn, 1)]
theorem tbJ0_length_8abf5 : vm_chk cJ0_length_8abf5 tlJ0_length_8abf5 = true := by decide +kernel
theorem dJ0_length_8abf5_0 : vm_at cJ0_length_8abf5 0 (.aload_n 0) 1 1 ∧ ((0 : Fin 4) : Nat) = 0 := ⟨⟨vm_row tbJ0_length_8abf5 0 rfl, rfl⟩, rfl⟩
theorem dJ0_length_8abf5_1 : vm_at cJ0_length_8abf5 1 (.getfield 9) 3 4 := ⟨vm_row tbJ0_length_8abf5 1 rfl, rfl⟩
theorem dJ0_length_8abf5_4 : vm_at cJ0_length_8abf5 4 (.arraylength) 1 5 := ⟨vm_row tbJ0_length_8abf5 2 rfl, rfl⟩
theorem dJ0_length_8abf5_5 : vm_at cJ0_length_8abf5 5 (.aload_n 0) 1 6 ∧ ((0 : Fin 4) : Nat) = 0 := ⟨⟨vm_row tbJ0_length_8abf5 3 rfl, rfl⟩, rfl⟩
theorem dJ0_length_8abf5_6 : vm_at cJ0_length_8abf5 6 (.invokevirtual 335) 3 9 := ⟨vm_row tbJ0_length_8abf5 4 rfl, rfl⟩
theorem dJ0_length_8abf5_9 : vm_at cJ0_length_8abf5 9 (.ishr) 1 10 := ⟨vm_row tbJ0_length_8abf5 5 rfl, rfl⟩
theorem dJ0_length_8abf5_10 : vm_at cJ0_length_8abf5 10 (.ireturn) 1 11 := ⟨vm_row tbJ0_length_8abf5 6 rfl, rfl⟩
def tlJ0_charAt_5068e : List (Nat × Instr × Nat) := [(0, .aload_n 0, 1), (1, .invokevirtual 492, 3), (4, .ifCond .eq 12, 3), (7, .aload_n 0, 1), (8, .getfield 9, 3), (11, .iload_n 1, 1), (12, .invokestatic 495, 3), (15, .ireturn, 1), (16, .aload_n 0, 1), (17, .getfield 9, 3), (20, .iload_n 1, 1), (21, .invokestatic 498, 3), (24, .ireturn, 1)]
theorem tbJ0_charAt_5068e : vm_chk cJ0_charAt_5068e tlJ0_charAt_5068e = true := by decide +kernel
theorem dJ0_charAt_5068e_0 : vm_at cJ0_charAt_5068e 0 (.aload_n 0) 1 1 ∧ ((0 : Fin 4) : Nat) = 0 := ⟨⟨vm_row tbJ0_charAt_5068e 0 rfl, rfl⟩, rfl⟩
theorem dJ0_charAt_5068e_1 : vm_at cJ0_charAt_5068e 1 (.invokevirtual 492) 3 4 := ⟨vm_row tbJ0_charAt_5068e 1 rfl, rfl⟩
theorem dJ0_charAt_5068e_4 : vm_br cJ0_charAt_5068e 4 (.ifCond .eq 12) 3 7 (12) 16 := ⟨vm_row tbJ0_charAt_5068e 2 rfl, rfl, rfl⟩
theorem dJ0_charAt_5068e_7 : vm_at cJ0_charAt_5068e 7 (.aload_n 0) 1 8 ∧ ((0 : Fin 4) : Nat) = 0 := ⟨⟨vm_row tbJ0_charAt_5068e 3 rfl, rfl⟩, rfl⟩
theorem dJ0_charAt_5068e_8 : vm_at cJ0_charAt_5068e 8 (.getfield 9) 3 11 := ⟨vm_row tbJ0_charAt_5068e 4 rfl, rfl⟩
theorem dJ0_charAt_5068e_11 : vm_at cJ0_charAt_5068e 11 (.iload_n 1) 1 12 ∧ ((1 : Fin 4) : Nat) = 1 := ⟨⟨vm_row tbJ0_charAt_5068e 5 rfl, rfl⟩, rfl⟩
theorem dJ0_charAt_5068e_12 : vm_at cJ0_charAt_5068e 12 (.invokestatic 495) 3 15 := ⟨vm_row tbJ0_charAt_5068e 6 rfl, rfl⟩
theorem dJ0_charAt_5068e_15 : vm_at cJ0_charAt_5068e 15 (.ireturn) 1 16 := ⟨vm_row tbJ0_charAt_5068e 7 rfl, rfl⟩
theorem dJ0_charAt_5068e_16 : vm_at cJ0_charAt_5068e 16 (.aload_n 0) 1 17 ∧ ((0 : Fin 4) : Nat) = 0 := ⟨⟨vm_row tbJ0_charAt_5068e 8 rfl, rfl⟩, rfl⟩
theorem dJ0_charAt_5068e_17 : vm_at cJ0_charAt_5068e 17 (.getfield 9) 3 20 := ⟨vm_row tbJ0_charAt_5068e 9 rfl, rfl⟩
theorem dJ0_charAt_5068e_20 : vm_at cJ0_charAt_5068e 20 (.iload_n 1) 1 21 ∧ ((1 : Fin 4) : Nat) = 1 := ⟨⟨vm_row tbJ0_charAt_5068e 10 rfl, rfl⟩, rfl⟩
theorem dJ0_charAt_5068e_21 : vm_at cJ0_charAt_5068e 21 (.invokestatic 498) 3 24 := ⟨vm_row tbJ0_charAt_5068e 11 rfl, rfl⟩
theorem dJ0_charAt_5068e_24 : vm_at cJ0_charAt_5068e 24 (.ireturn) 1 25 := ⟨vm_row tbJ0_charAt_5068e 12 rfl, rfl⟩
def tlJ0_coder_7d493 : List (Nat × Instr × Nat) := [(0, .getstatic 38, 3), (3, .ifCond .eq 10, 3), (6, .aload_n 0, 1), (7, .getfield 15, 3), (10, .goto 4, 3), (13, .iconst 1, 1), (14, .ireturn, 1)]
theorem tbJ0_coder_7d493 : vm_chk cJ0_coder_7d493 tlJ0_coder_7d493 = true := by decide +kernel
theorem dJ0_coder_7d493_0 : vm_at cJ0_coder_7d493 0 (.getstatic 38) 3 3 := ⟨vm_row tbJ0_coder_7d493 0 rfl, rfl⟩
theorem dJ0_coder_7d493_3 : vm_br cJ0_coder_7d493 3 (.ifCond .eq 10) 3 6 (10) 13 := ⟨vm_row tbJ0_coder_7d493 1 rfl, rfl, rfl⟩
theorem dJ0_coder_7d493_6 : vm_at cJ0_coder_7d493 6 (.aload_n 0) 1 7 ∧ ((0 : Fin 4) : Nat) = 0 := ⟨⟨vm_row tbJ0_coder_7d493 2 rfl, rfl⟩, rfl⟩
theorem dJ0_coder_7d493_7 : vm_at cJ0_coder_7d493 7 (.getfield 15) 3 10 := ⟨vm_row tbJ0_coder_7d493 3 rfl, rfl⟩
theorem dJ0_coder_7d493_10 : vm_br cJ0_coder_7d493 10 (.goto 4) 3 13 (4) 14 := ⟨vm_row tbJ0_coder_7d493 4 rfl, rfl, rfl⟩
theorem dJ0_coder_7d493_13 : vm_at cJ0_coder_7d493 13 (.iconst 1) 1 14 ∧ Int32.ofInt (1) = (1 : Int32) := ⟨⟨vm_row tbJ0_coder_7d493 5 rfl, rfl⟩, z_iconst_1⟩
theorem dJ0_coder_7d493_14 : vm_at cJ0_coder_7d493 14 (.ireturn) 1 15 := ⟨vm_row tbJ0_coder_7d493 6 rfl, rfl⟩
def tlJ0_isLatin1_aae02 : List (Nat × Instr × Nat) := [(0, .getstatic 38, 3), (3, .ifCond .eq 14, 3), (6, .aload_n 0, 1), (7, .getfield 15, 3), (10, .ifCond .ne 7, 3), (13, .iconst 1, 1), (14, .goto 4, 3), (17, .iconst 0, 1), (18, .ireturn, 1)]
theorem tbJ0_isLatin1_aae02 : vm_chk cJ0_isLatin1_aae02 tlJ0_isLatin1_aae02 = true := by decide +kernel
theorem dJ0_isLatin1_aae02_0 : vm_at cJ0_isLatin1_aae02 0 (.getstatic 38) 3 3 := ⟨vm_row tbJ0_isLatin1_aae02 0 rfl, rfl⟩
theorem dJ0_isLatin1_aae02_3 : vm_br cJ0_isLatin1_aae02 3 (.ifCond .eq 14) 3 6 (14) 17 := ⟨vm_row tbJ0_isLatin1_aae02 1 rfl, rfl, rfl⟩
theorem dJ0_isLatin1_aae02_6 : vm_at cJ0_isLatin1_aae02 6 (.aload_n 0) 1 7 ∧ ((0 : Fin 4) : Nat) = 0 := ⟨⟨vm_row tbJ0_isLatin1_aae02 2 rfl, rfl⟩, rfl⟩
theorem dJ0_isLatin1_aae02_7 : vm_at cJ0_isLatin1_aae02 7 (.getfield 15) 3 10 := ⟨vm_row tbJ0_isLatin1_aae02 3 rfl, rfl⟩
theorem dJ0_isLatin1_aae02_10 : vm_br cJ0_isLatin1_aae02 10 (.ifCond .ne 7) 3 13 (7) 17 := ⟨vm_row tbJ0_isLatin1_aae02 4 rfl, rfl, rfl⟩
theorem dJ0_isLatin1_aae02_13 : vm_at cJ0_isLatin1_aae02 13 (.iconst 1) 1 14 ∧ Int32.ofInt (1) = (1 : Int32) := ⟨⟨vm_row tbJ0_isLatin1_aae02 5 rfl, rfl⟩, z_iconst_1⟩
theorem dJ0_isLatin1_aae02_14 : vm_br cJ0_isLatin1_aae02 14 (.goto 4) 3 17 (4) 18 := ⟨vm_row tbJ0_isLatin1_aae02 6 rfl, rfl, rfl⟩
theorem dJ0_isLatin1_aae02_17 : vm_at cJ0_isLatin1_aae02 17 (.iconst 0) 1 18 ∧ Int32.ofInt (0) = (0 : Int32) := ⟨⟨vm_row tbJ0_isLatin1_aae02 7 rfl, rfl⟩, z_iconst_0⟩
theorem dJ0_isLatin1_aae02_18 : vm_at cJ0_isLatin1_aae02 18 (.ireturn) 1 19 := ⟨vm_row tbJ0_isLatin1_aae02 8 rfl, rfl⟩
def tlJ0_checkIndex_df160 : List (Nat × Instr × Nat) := [(0, .iload_n 0, 1), (1, .iload_n 1, 1), (2, .getstatic 1053, 3), (5, .invokestatic 1059, 3), (8, .pop, 1), (9, .return_, 1)]
theorem tbJ0_checkIndex_df160 : vm_chk cJ0_checkIndex_df160 tlJ0_checkIndex_df160 = true := by decide +kernel
theorem dJ0_checkIndex_df160_0 : vm_at cJ0_checkIndex_df160 0 (.iload_n 0) 1 1 ∧ ((0 : Fin 4) : Nat) = 0 := ⟨⟨vm_row tbJ0_checkIndex_df160 0 rfl, rfl⟩, rfl⟩
theorem dJ0_checkIndex_df160_1 : vm_at cJ0_checkIndex_df160 1 (.iload_n 1) 1 2 ∧ ((1 : Fin 4) : Nat) = 1 := ⟨⟨vm_row tbJ0_checkIndex_df160 1 rfl, rfl⟩, rfl⟩
theorem dJ0_checkIndex_df160_2 : vm_at cJ0_checkIndex_df160 2 (.getstatic 1053) 3 5 := ⟨vm_row tbJ0_checkIndex_df160 2 rfl, rfl⟩
theorem dJ0_checkIndex_df160_5 : vm_at cJ0_checkIndex_df160 5 (.invokestatic 1059) 3 8 := ⟨vm_row tbJ0_checkIndex_df160 3 rfl, rfl⟩
theorem dJ0_checkIndex_df160_8 : vm_at cJ0_checkIndex_df160 8 (.pop) 1 9 := ⟨vm_row tbJ0_checkIndex_df160 4 rfl, rfl⟩
theorem dJ0_checkIndex_df160_9 : vm_at cJ0_checkIndex_df160 9 (.return_) 1 10 := ⟨vm_row tbJ0_checkIndex_df160 5 rfl, rfl⟩
def tlJ1_charAt_3b067 : List (Nat × Instr × Nat) := [(0, .iload_n 1, 1), (1, .aload_n 0, 1), (2, .arraylength, 1), (3, .invokestatic 9, 3), (6, .aload_n 0, 1), (7, .iload_n 1, 1), (8, .baload, 1), (9, .sipush 255, 3), (12, .iand, 1), (13, .i2c, 1), (14, .ireturn, 1)]
theorem tbJ1_charAt_3b067 : vm_chk cJ1_charAt_3b067 tlJ1_charAt_3b067 = true := by decide +kernel
theorem dJ1_charAt_3b067_0 : vm_at cJ1_charAt_3b067 0 (.iload_n 1) 1 1 ∧ ((1 : Fin 4) : Nat) = 1 := ⟨⟨vm_row tbJ1_charAt_3b067 0 rfl, rfl⟩, rfl⟩
theorem dJ1_charAt_3b067_1 : vm_at cJ1_charAt_3b067 1 (.aload_n 0) 1 2 ∧ ((0 : Fin 4) : Nat) = 0 := ⟨⟨vm_row tbJ1_charAt_3b067 1 rfl, rfl⟩, rfl⟩
theorem dJ1_charAt_3b067_2 : vm_at cJ1_charAt_3b067 2 (.arraylength) 1 3 := ⟨vm_row tbJ1_charAt_3b067 2 rfl, rfl⟩
theorem dJ1_charAt_3b067_3 : vm_at cJ1_charAt_3b067 3 (.invokestatic 9) 3 6 := ⟨vm_row tbJ1_charAt_3b067 3 rfl, rfl⟩
theorem dJ1_charAt_3b067_6 : vm_at cJ1_charAt_3b067 6 (.aload_n 0) 1 7 ∧ ((0 : Fin 4) : Nat) = 0 := ⟨⟨vm_row tbJ1_charAt_3b067 4 rfl, rfl⟩, rfl⟩
theorem dJ1_charAt_3b067_7 : vm_at cJ1_charAt_3b067 7 (.iload_n 1) 1 8 ∧ ((1 : Fin 4) : Nat) = 1 := ⟨⟨vm_row tbJ1_charAt_3b067 5 rfl, rfl⟩, rfl⟩
theorem dJ1_charAt_3b067_8 : vm_at cJ1_charAt_3b067 8 (.baload) 1 9 := ⟨vm_row tbJ1_charAt_3b067 6 rfl, rfl⟩
theorem dJ1_charAt_3b067_9 : vm_at cJ1_charAt_3b067 9 (.sipush 255) 3 12 ∧ (Int16.ofInt (255)).toInt32 = (255 : Int32) := ⟨⟨vm_row tbJ1_charAt_3b067 7 rfl, rfl⟩, z_sipush_255⟩
theorem dJ1_charAt_3b067_12 : vm_at cJ1_charAt_3b067 12 (.iand) 1 13 := ⟨vm_row tbJ1_charAt_3b067 8 rfl, rfl⟩
theorem dJ1_charAt_3b067_13 : vm_at cJ1_charAt_3b067 13 (.i2c) 1 14 := ⟨vm_row tbJ1_charAt_3b067 9 rfl, rfl⟩
theorem dJ1_charAt_3b067_14 : vm_at cJ1_charAt_3b067 14 (.ireturn) 1 15 := ⟨vm_row tbJ1_charAt_3b067 10 rfl, rfl⟩
def tlJ2_getChar_3b067 : List (Nat × Instr × Nat) := [(0, .getstatic 44, 3), (3, .ifCond .ne 25, 3), (6, .iload_n 1, 1), (7, .ifCond .lt 11, 3), (10, .iload_n 1, 1), (11, .aload_n 0, 1), (12, .invokestatic 48, 3), (15, .if_icmp .lt 13, 3), (18, .new 52, 3), (21, .dup, 1), (22, .ldc 54, 2), (24, .invokespecial 56, 3), (27, .athrow, 1), (28, .iload_n 1, 1), (29, .iconst 1, 1), (30, .ishl, 1), (31, .istore_n 1, 1), (32, .aload_n 0, 1), (33, .iload_n 1, 1), (34, .iinc 1 1, 3), (37, .baload, 1), (38, .sipush 255, 3), (41, .iand, 1), (42, .getstatic 59, 3), (45, .ishl, 1), (46, .aload_n 0, 1), (47, .iload_n 1, 1), (48, .baload, 1), (49, .sipush 255, 3), (52, .iand, 1), (53, .getstatic 63, 3), (56, .ishl, 1), (57, .ior, 1), (58, .i2c, 1), (59, .ireturn, 1)]
theorem tbJ2_getChar_3b067 : vm_chk cJ2_getChar_3b067 tlJ2_getChar_3b067 = true := by decide +kernel
theorem dJ2_getChar_3b067_0 : vm_at cJ2_getChar_3b067 0 (.getstatic 44) 3 3 := ⟨vm_row tbJ2_getChar_3b067 0 rfl, rfl⟩
theorem dJ2_getChar_3b067_3 : vm_br cJ2_getChar_3b067 3 (.ifCond .ne 25) 3 6 (25) 28 := ⟨vm_row tbJ2_getChar_3b067 1 rfl, rfl, rfl⟩
theorem dJ2_getChar_3b067_6 : vm_at cJ2_getChar_3b067 6 (.iload_n 1) 1 7 ∧ ((1 : Fin 4) : Nat) = 1 := ⟨⟨vm_row tbJ2_getChar_3b067 2 rfl, rfl⟩, rfl⟩
theorem dJ2_getChar_3b067_7 : vm_br cJ2_getChar_3b067 7 (.ifCond .lt 11) 3 10 (11) 18 := ⟨vm_row tbJ2_getChar_3b067 3 rfl, rfl, rfl⟩
theorem dJ2_getChar_3b067_10 : vm_at cJ2_getChar_3b067 10 (.iload_n 1) 1 11 ∧ ((1 : Fin 4) : Nat) = 1 := ⟨⟨vm_row tbJ2_getChar_3b067 4 rfl, rfl⟩, rfl⟩
theorem dJ2_getChar_3b067_11 : vm_at cJ2_getChar_3b067 11 (.aload_n 0) 1 12 ∧ ((0 : Fin 4) : Nat) = 0 := ⟨⟨vm_row tbJ2_getChar_3b067 5 rfl, rfl⟩, rfl⟩
theorem dJ2_getChar_3b067_12 : vm_at cJ2_getChar_3b067 12 (.invokestatic 48) 3 15 := ⟨vm_row tbJ2_getChar_3b067 6 rfl, rfl⟩
theorem dJ2_getChar_3b067_15 : vm_br cJ2_getChar_3b067 15 (.if_icmp .lt 13) 3 18 (13) 28 := ⟨vm_row tbJ2_getChar_3b067 7 rfl, rfl, rfl⟩
theorem dJ2_getChar_3b067_18 : vm_at cJ2_getChar_3b067 18 (.new 52) 3 21 := ⟨vm_row tbJ2_getChar_3b067 8 rfl, rfl⟩
theorem dJ2_getChar_3b067_21 : vm_at cJ2_getChar_3b067 21 (.dup) 1 22 := ⟨vm_row tbJ2_getChar_3b067 9 rfl, rfl⟩
theorem dJ2_getChar_3b067_22 : vm_at cJ2_getChar_3b067 22 (.ldc 54) 2 24 := ⟨vm_row tbJ2_getChar_3b067 10 rfl, rfl⟩
theorem dJ2_getChar_3b067_24 : vm_at cJ2_getChar_3b067 24 (.invokespecial 56) 3 27 := ⟨vm_row tbJ2_getChar_3b067 11 rfl, rfl⟩
theorem dJ2_getChar_3b067_27 : vm_at cJ2_getChar_3b067 27 (.athrow) 1 28 := ⟨vm_row tbJ2_getChar_3b067 12 rfl, rfl⟩
theorem dJ2_getChar_3b067_28 : vm_at cJ2_getChar_3b067 28 (.iload_n 1) 1 29 ∧ ((1 : Fin 4) : Nat) = 1 := ⟨⟨vm_row tbJ2_getChar_3b067 13 rfl, rfl⟩, rfl⟩
theorem dJ2_getChar_3b067_29 : vm_at cJ2_getChar_3b067 29 (.iconst 1) 1 30 ∧ Int32.ofInt (1) = (1 : Int32) := ⟨⟨vm_row tbJ2_getChar_3b067 14 rfl, rfl⟩, z_iconst_1⟩
theorem dJ2_getChar_3b067_30 : vm_at cJ2_getChar_3b067 30 (.ishl) 1 31 := ⟨vm_row tbJ2_getChar_3b067 15 rfl, rfl⟩
theorem dJ2_getChar_3b067_31 : vm_at cJ2_getChar_3b067 31 (.istore_n 1) 1 32 ∧ ((1 : Fin 4) : Nat) = 1 := ⟨⟨vm_row tbJ2_getChar_3b067 16 rfl, rfl⟩, rfl⟩
theorem dJ2_getChar_3b067_32 : vm_at cJ2_getChar_3b067 32 (.aload_n 0) 1 33 ∧ ((0 : Fin 4) : Nat) = 0 := ⟨⟨vm_row tbJ2_getChar_3b067 17 rfl, rfl⟩, rfl⟩
theorem dJ2_getChar_3b067_33 : vm_at cJ2_getChar_3b067 33 (.iload_n 1) 1 34 ∧ ((1 : Fin 4) : Nat) = 1 := ⟨⟨vm_row tbJ2_getChar_3b067 18 rfl, rfl⟩, rfl⟩
theorem dJ2_getChar_3b067_34 : vm_at cJ2_getChar_3b067 34 (.iinc 1 1) 3 37 ∧ Int32.ofInt (1) = (1 : Int32) := ⟨⟨vm_row tbJ2_getChar_3b067 19 rfl, rfl⟩, z_iconst_1⟩
theorem dJ2_getChar_3b067_37 : vm_at cJ2_getChar_3b067 37 (.baload) 1 38 := ⟨vm_row tbJ2_getChar_3b067 20 rfl, rfl⟩
theorem dJ2_getChar_3b067_38 : vm_at cJ2_getChar_3b067 38 (.sipush 255) 3 41 ∧ (Int16.ofInt (255)).toInt32 = (255 : Int32) := ⟨⟨vm_row tbJ2_getChar_3b067 21 rfl, rfl⟩, z_sipush_255⟩
theorem dJ2_getChar_3b067_41 : vm_at cJ2_getChar_3b067 41 (.iand) 1 42 := ⟨vm_row tbJ2_getChar_3b067 22 rfl, rfl⟩
theorem dJ2_getChar_3b067_42 : vm_at cJ2_getChar_3b067 42 (.getstatic 59) 3 45 := ⟨vm_row tbJ2_getChar_3b067 23 rfl, rfl⟩
theorem dJ2_getChar_3b067_45 : vm_at cJ2_getChar_3b067 45 (.ishl) 1 46 := ⟨vm_row tbJ2_getChar_3b067 24 rfl, rfl⟩
theorem dJ2_getChar_3b067_46 : vm_at cJ2_getChar_3b067 46 (.aload_n 0) 1 47 ∧ ((0 : Fin 4) : Nat) = 0 := ⟨⟨vm_row tbJ2_getChar_3b067 25 rfl, rfl⟩, rfl⟩
theorem dJ2_getChar_3b067_47 : vm_at cJ2_getChar_3b067 47 (.iload_n 1) 1 48 ∧ ((1 : Fin 4) : Nat) = 1 := ⟨⟨vm_row tbJ2_getChar_3b067 26 rfl, rfl⟩, rfl⟩
theorem dJ2_getChar_3b067_48 : vm_at cJ2_getChar_3b067 48 (.baload) 1 49 := ⟨vm_row tbJ2_getChar_3b067 27 rfl, rfl⟩
theorem dJ2_getChar_3b067_49 : vm_at cJ2_getChar_3b067 49 (.sipush 255) 3 52 ∧ (Int16.ofInt (255)).toInt32 = (255 : Int32) := ⟨⟨vm_row tbJ2_getChar_3b067 28 rfl, rfl⟩, z_sipush_255⟩
theorem dJ2_getChar_3b067_52 : vm_at cJ2_getChar_3b067 52 (.iand) 1 53 := ⟨vm_row tbJ2_getChar_3b067 29 rfl, rfl⟩
theorem dJ2_getChar_3b067_53 : vm_at cJ2_getChar_3b067 53 (.getstatic 63) 3 56 := ⟨vm_row tbJ2_getChar_3b067 30 rfl, rfl⟩
theorem dJ2_getChar_3b067_56 : vm_at cJ2_getChar_3b067 56 (.ishl) 1 57 := ⟨vm_row tbJ2_getChar_3b067 31 rfl, rfl⟩
theorem dJ2_getChar_3b067_57 : vm_at cJ2_getChar_3b067 57 (.ior) 1 58 := ⟨vm_row tbJ2_getChar_3b067 32 rfl, rfl⟩
theorem dJ2_getChar_3b067_58 : vm_at cJ2_getChar_3b067 58 (.i2c) 1 59 := ⟨vm_row tbJ2_getChar_3b067 33 rfl, rfl⟩
theorem dJ2_getChar_3b067_59 : vm_at cJ2_getChar_3b067 59 (.ireturn) 1 60 := ⟨vm_row tbJ2_getChar_3b067 34 rfl, rfl⟩
def tlJ2_length_9d52b : List (Nat × Instr × Nat) := [(0, .aload_n 0, 1), (1, .arraylength, 1), (2, .iconst 1, 1), (3, .ishr, 1), (4, .ireturn, 1)]
theorem tbJ2_length_9d52b : vm_chk cJ2_length_9d52b tlJ2_length_9d52b = true := by decide +kernel
theorem dJ2_length_9d52b_0 : vm_at cJ2_length_9d52b 0 (.aload_n 0) 1 1 ∧ ((0 : Fin 4) : Nat) = 0 := ⟨⟨vm_row tbJ2_length_9d52b 0 rfl, rfl⟩, rfl⟩
theorem dJ2_length_9d52b_1 : vm_at cJ2_length_9d52b 1 (.arraylength) 1 2 := ⟨vm_row tbJ2_length_9d52b 1 rfl, rfl⟩
theorem dJ2_length_9d52b_2 : vm_at cJ2_length_9d52b 2 (.iconst 1) 1 3 ∧ Int32.ofInt (1) = (1 : Int32) := ⟨⟨vm_row tbJ2_length_9d52b 2 rfl, rfl⟩, z_iconst_1⟩
theorem dJ2_length_9d52b_3 : vm_at cJ2_length_9d52b 3 (.ishr) 1 4 := ⟨vm_row tbJ2_length_9d52b 3 rfl, rfl⟩
theorem dJ2_length_9d52b_4 : vm_at cJ2_length_9d52b 4 (.ireturn) 1 5 := ⟨vm_row tbJ2_length_9d52b 4 rfl, rfl⟩
def tlJ2_charAt_3b067 : List (Nat × Instr × Nat) := [(0, .iload_n 1, 1), (1, .aload_n 0, 1), (2, .invokestatic 67, 3), (5, .aload_n 0, 1), (6, .iload_n 1, 1), (7, .invokestatic 71, 3), (10, .ireturn, 1)]
theorem tbJ2_charAt_3b067 : vm_chk cJ2_charAt_3b067 tlJ2_charAt_3b067 = true := by decide +kernel
theorem dJ2_charAt_3b067_0 : vm_at cJ2_charAt_3b067 0 (.iload_n 1) 1 1 ∧ ((1 : Fin 4) : Nat) = 1 := ⟨⟨vm_row tbJ2_charAt_3b067 0 rfl, rfl⟩, rfl⟩
theorem dJ2_charAt_3b067_1 : vm_at cJ2_charAt_3b067 1 (.aload_n 0) 1 2 ∧ ((0 : Fin 4) : Nat) = 0 := ⟨⟨vm_row tbJ2_charAt_3b067 1 rfl, rfl⟩, rfl⟩
theorem dJ2_charAt_3b067_2 : vm_at cJ2_charAt_3b067 2 (.invokestatic 67) 3 5 := ⟨vm_row tbJ2_charAt_3b067 2 rfl, rfl⟩
theorem dJ2_charAt_3b067_5 : vm_at cJ2_charAt_3b067 5 (.aload_n 0) 1 6 ∧ ((0 : Fin 4) : Nat) = 0 := ⟨⟨vm_row tbJ2_charAt_3b067 3 rfl, rfl⟩, rfl⟩
theorem dJ2_charAt_3b067_6 : vm_at cJ2_charAt_3b067 6 (.iload_n 1) 1 7 ∧ ((1 : Fin 4) : Nat) = 1 := ⟨⟨vm_row tbJ2_charAt_3b067 4 rfl, rfl⟩, rfl⟩
theorem dJ2_charAt_3b067_7 : vm_at cJ2_charAt_3b067 7 (.invokestatic 71) 3 10 := ⟨vm_row tbJ2_charAt_3b067 5 rfl, rfl⟩
theorem dJ2_charAt_3b067_10 : vm_at cJ2_charAt_3b067 10 (.ireturn) 1 11 := ⟨vm_row tbJ2_charAt_3b067 6 rfl, rfl⟩
def tlJ2_checkIndex_2214a : List (Nat × Instr × Nat) := [(0, .iload_n 0, 1), (1, .aload_n 1, 1), (2, .invokestatic 48, 3), (5, .invokestatic 414, 3), (8, .return_, 1)]
theorem tbJ2_checkIndex_2214a : vm_chk cJ2_checkIndex_2214a tlJ2_checkIndex_2214a = true := by decide +kernel
theorem dJ2_checkIndex_2214a_0 : vm_at cJ2_checkIndex_2214a 0 (.iload_n 0) 1 1 ∧ ((0 : Fin 4) : Nat) = 0 := ⟨⟨vm_row tbJ2_checkIndex_2214a 0 rfl, rfl⟩, rfl⟩
theorem dJ2_checkIndex_2214a_1 : vm_at cJ2_checkIndex_2214a 1 (.aload_n 1) 1 2 ∧ ((1 : Fin 4) : Nat) = 1 := ⟨⟨vm_row tbJ2_checkIndex_2214a 1 rfl, rfl⟩, rfl⟩
theorem dJ2_checkIndex_2214a_2 : vm_at cJ2_checkIndex_2214a 2 (.invokestatic 48) 3 5 := ⟨vm_row tbJ2_checkIndex_2214a 2 rfl, rfl⟩
theorem dJ2_checkIndex_2214a_5 : vm_at cJ2_checkIndex_2214a 5 (.invokestatic 414) 3 8 := ⟨vm_row tbJ2_checkIndex_2214a 3 rfl, rfl⟩
theorem dJ2_checkIndex_2214a_8 : vm_at cJ2_checkIndex_2214a 8 (.return_) 1 9 := ⟨vm_row tbJ2_checkIndex_2214a 4 rfl, rfl⟩
def tlJ7_fill_d0a16 : List (Nat × Instr × Nat) := [(0, .iconst 0, 1), (1, .istore_n 3, 1), (2, .aload_n 0, 1), (3, .arraylength, 1), (4, .istore 4, 2), (6, .iload_n 3, 1), (7, .iload 4, 2), (9, .if_icmp .ge 13, 3), (12, .aload_n 0, 1), (13, .iload_n 3, 1), (14, .lload_n 1, 1), (15, .lastore, 1), (16, .iinc 3 1, 3), (19, .goto (-13), 3), (22, .return_, 1)]
theorem tbJ7_fill_d0a16 : vm_chk cJ7_fill_d0a16 tlJ7_fill_d0a16 = true := by decide +kernel
theorem dJ7_fill_d0a16_0 : vm_at cJ7_fill_d0a16 0 (.iconst 0) 1 1 ∧ Int32.ofInt (0) = (0 : Int32) := ⟨⟨vm_row tbJ7_fill_d0a16 0 rfl, rfl⟩, z_iconst_0⟩
theorem dJ7_fill_d0a16_1 : vm_at cJ7_fill_d0a16 1 (.istore_n 3) 1 2 ∧ ((3 : Fin 4) : Nat) = 3 := ⟨⟨vm_row tbJ7_fill_d0a16 1 rfl, rfl⟩, rfl⟩
theorem dJ7_fill_d0a16_2 : vm_at cJ7_fill_d0a16 2 (.aload_n 0) 1 3 ∧ ((0 : Fin 4) : Nat) = 0 := ⟨⟨vm_row tbJ7_fill_d0a16 2 rfl, rfl⟩, rfl⟩
theorem dJ7_fill_d0a16_3 : vm_at cJ7_fill_d0a16 3 (.arraylength) 1 4 := ⟨vm_row tbJ7_fill_d0a16 3 rfl, rfl⟩
theorem dJ7_fill_d0a16_4 : vm_at cJ7_fill_d0a16 4 (.istore 4) 2 6 := ⟨vm_row tbJ7_fill_d0a16 4 rfl, rfl⟩
theorem dJ7_fill_d0a16_6 : vm_at cJ7_fill_d0a16 6 (.iload_n 3) 1 7 ∧ ((3 : Fin 4) : Nat) = 3 := ⟨⟨vm_row tbJ7_fill_d0a16 5 rfl, rfl⟩, rfl⟩
theorem dJ7_fill_d0a16_7 : vm_at cJ7_fill_d0a16 7 (.iload 4) 2 9 := ⟨vm_row tbJ7_fill_d0a16 6 rfl, rfl⟩
theorem dJ7_fill_d0a16_9 : vm_br cJ7_fill_d0a16 9 (.if_icmp .ge 13) 3 12 (13) 22 := ⟨vm_row tbJ7_fill_d0a16 7 rfl, rfl, rfl⟩
theorem dJ7_fill_d0a16_12 : vm_at cJ7_fill_d0a16 12 (.aload_n 0) 1 13 ∧ ((0 : Fin 4) : Nat) = 0 := ⟨⟨vm_row tbJ7_fill_d0a16 8 rfl, rfl⟩, rfl⟩
theorem dJ7_fill_d0a16_13 : vm_at cJ7_fill_d0a16 13 (.iload_n 3) 1 14 ∧ ((3 : Fin 4) : Nat) = 3 := ⟨⟨vm_row tbJ7_fill_d0a16 9 rfl, rfl⟩, rfl⟩
theorem dJ7_fill_d0a16_14 : vm_at cJ7_fill_d0a16 14 (.lload_n 1) 1 15 ∧ ((1 : Fin 4) : Nat) = 1 := ⟨⟨vm_row tbJ7_fill_d0a16 10 rfl, rfl⟩, rfl⟩
theorem dJ7_fill_d0a16_15 : vm_at cJ7_fill_d0a16 15 (.lastore) 1 16 := ⟨vm_row tbJ7_fill_d0a16 11 rfl, rfl⟩
theorem dJ7_fill_d0a16_16 : vm_at cJ7_fill_d0a16 16 (.iinc 3 1) 3 19 ∧ Int32.ofInt (1) = (1 : Int32) := ⟨⟨vm_row tbJ7_fill_d0a16 12 rfl, rfl⟩, z_iconst_1⟩
theorem dJ7_fill_d0a16_19 : vm_br cJ7_fill_d0a16 19 (.goto (-13)) 3 22 (-13) 6 := ⟨vm_row tbJ7_fill_d0a16 13 rfl, rfl, rfl⟩
theorem dJ7_fill_d0a16_22 : vm_at cJ7_fill_d0a16 22 (.return_) 1 23 := ⟨vm_row tbJ7_fill_d0a16 14 rfl, rfl⟩
def tlJ7_fill_53178 : List (Nat × Instr × Nat) := [(0, .iconst 0, 1), (1, .istore_n 2, 1), (2, .aload_n 0, 1), (3, .arraylength, 1), (4, .istore_n 3, 1), (5, .iload_n 2, 1), (6, .iload_n 3, 1), (7, .if_icmp .ge 13, 3), (10, .aload_n 0, 1), (11, .iload_n 2, 1), (12, .iload_n 1, 1), (13, .iastore, 1), (14, .iinc 2 1, 3), (17, .goto (-12), 3), (20, .return_, 1)]
theorem tbJ7_fill_53178 : vm_chk cJ7_fill_53178 tlJ7_fill_53178 = true := by decide +kernel
theorem dJ7_fill_53178_0 : vm_at cJ7_fill_53178 0 (.iconst 0) 1 1 ∧ Int32.ofInt (0) = (0 : Int32) := ⟨⟨vm_row tbJ7_fill_53178 0 rfl, rfl⟩, z_iconst_0⟩
theorem dJ7_fill_53178_1 : vm_at cJ7_fill_53178 1 (.istore_n 2) 1 2 ∧ ((2 : Fin 4) : Nat) = 2 := ⟨⟨vm_row tbJ7_fill_53178 1 rfl, rfl⟩, rfl⟩
theorem dJ7_fill_53178_2 : vm_at cJ7_fill_53178 2 (.aload_n 0) 1 3 ∧ ((0 : Fin 4) : Nat) = 0 := ⟨⟨vm_row tbJ7_fill_53178 2 rfl, rfl⟩, rfl⟩
theorem dJ7_fill_53178_3 : vm_at cJ7_fill_53178 3 (.arraylength) 1 4 := ⟨vm_row tbJ7_fill_53178 3 rfl, rfl⟩
theorem dJ7_fill_53178_4 : vm_at cJ7_fill_53178 4 (.istore_n 3) 1 5 ∧ ((3 : Fin 4) : Nat) = 3 := ⟨⟨vm_row tbJ7_fill_53178 4 rfl, rfl⟩, rfl⟩
theorem dJ7_fill_53178_5 : vm_at cJ7_fill_53178 5 (.iload_n 2) 1 6 ∧ ((2 : Fin 4) : Nat) = 2 := ⟨⟨vm_row tbJ7_fill_53178 5 rfl, rfl⟩, rfl⟩
theorem dJ7_fill_53178_6 : vm_at cJ7_fill_53178 6 (.iload_n 3) 1 7 ∧ ((3 : Fin 4) : Nat) = 3 := ⟨⟨vm_row tbJ7_fill_53178 6 rfl, rfl⟩, rfl⟩
theorem dJ7_fill_53178_7 : vm_br cJ7_fill_53178 7 (.if_icmp .ge 13) 3 10 (13) 20 := ⟨vm_row tbJ7_fill_53178 7 rfl, rfl, rfl⟩
theorem dJ7_fill_53178_10 : vm_at cJ7_fill_53178 10 (.aload_n 0) 1 11 ∧ ((0 : Fin 4) : Nat) = 0 := ⟨⟨vm_row tbJ7_fill_53178 8 rfl, rfl⟩, rfl⟩
theorem dJ7_fill_53178_11 : vm_at cJ7_fill_53178 11 (.iload_n 2) 1 12 ∧ ((2 : Fin 4) : Nat) = 2 := ⟨⟨vm_row tbJ7_fill_53178 9 rfl, rfl⟩, rfl⟩
theorem dJ7_fill_53178_12 : vm_at cJ7_fill_53178 12 (.iload_n 1) 1 13 ∧ ((1 : Fin 4) : Nat) = 1 := ⟨⟨vm_row tbJ7_fill_53178 10 rfl, rfl⟩, rfl⟩
theorem dJ7_fill_53178_13 : vm_at cJ7_fill_53178 13 (.iastore) 1 14 := ⟨vm_row tbJ7_fill_53178 11 rfl, rfl⟩
theorem dJ7_fill_53178_14 : vm_at cJ7_fill_53178 14 (.iinc 2 1) 3 17 ∧ Int32.ofInt (1) = (1 : Int32) := ⟨⟨vm_row tbJ7_fill_53178 12 rfl, rfl⟩, z_iconst_1⟩
theorem dJ7_fill_53178_17 : vm_br cJ7_fill_53178 17 (.goto (-12)) 3 20 (-12) 5 := ⟨vm_row tbJ7_fill_53178 13 rfl, rfl, rfl⟩
theorem dJ7_fill_53178_20 : vm_at cJ7_fill_53178 20 (.return_) 1 21 := ⟨vm_row tbJ7_fill_53178 14 rfl, rfl⟩
def tlJ3_checkIndex_8e157 : List (Nat × Instr × Nat) := [(0, .iload_n 0, 1), (1, .ifCond .lt 8, 3), (4, .iload_n 0, 1), (5, .iload_n 1, 1), (6, .if_icmp .lt 10, 3), (9, .aload_n 2, 1), (10, .iload_n 0, 1), (11, .iload_n 1, 1), (12, .invokestatic 95, 3), (15, .athrow, 1), (16, .iload_n 0, 1), (17, .ireturn, 1)]
theorem tbJ3_checkIndex_8e157 : vm_chk cJ3_checkIndex_8e157 tlJ3_checkIndex_8e157 = true := by decide +kernel
theorem dJ3_checkIndex_8e157_0 : vm_at cJ3_checkIndex_8e157 0 (.iload_n 0) 1 1 ∧ ((0 : Fin 4) : Nat) = 0 := ⟨⟨vm_row tbJ3_checkIndex_8e157 0 rfl, rfl⟩, rfl⟩
theorem dJ3_checkIndex_8e157_1 : vm_br cJ3_checkIndex_8e157 1 (.ifCond .lt 8) 3 4 (8) 9 := ⟨vm_row tbJ3_checkIndex_8e157 1 rfl, rfl, rfl⟩
theorem dJ3_checkIndex_8e157_4 : vm_at cJ3_checkIndex_8e157 4 (.iload_n 0) 1 5 ∧ ((0 : Fin 4) : Nat) = 0 := ⟨⟨vm_row tbJ3_checkIndex_8e157 2 rfl, rfl⟩, rfl⟩
theorem dJ3_checkIndex_8e157_5 : vm_at cJ3_checkIndex_8e157 5 (.iload_n 1) 1 6 ∧ ((1 : Fin 4) : Nat) = 1 := ⟨⟨vm_row tbJ3_checkIndex_8e157 3 rfl, rfl⟩, rfl⟩
theorem dJ3_checkIndex_8e157_6 : vm_br cJ3_checkIndex_8e157 6 (.if_icmp .lt 10) 3 9 (10) 16 := ⟨vm_row tbJ3_checkIndex_8e157 4 rfl, rfl, rfl⟩
theorem dJ3_checkIndex_8e157_9 : vm_at cJ3_checkIndex_8e157 9 (.aload_n 2) 1 10 ∧ ((2 : Fin 4) : Nat) = 2 := ⟨⟨vm_row tbJ3_checkIndex_8e157 5 rfl, rfl⟩, rfl⟩
theorem dJ3_checkIndex_8e157_10 : vm_at cJ3_checkIndex_8e157 10 (.iload_n 0) 1 11 ∧ ((0 : Fin 4) : Nat) = 0 := ⟨⟨vm_row tbJ3_checkIndex_8e157 6 rfl, rfl⟩, rfl⟩
theorem dJ3_checkIndex_8e157_11 : vm_at cJ3_checkIndex_8e157 11 (.iload_n 1) 1 12 ∧ ((1 : Fin 4) : Nat) = 1 := ⟨⟨vm_row tbJ3_checkIndex_8e157 7 rfl, rfl⟩, rfl⟩
theorem dJ3_checkIndex_8e157_12 : vm_at cJ3_checkIndex_8e157 12 (.invokestatic 95) 3 15 := ⟨vm_row tbJ3_checkIndex_8e157 8 rfl, rfl⟩
theorem dJ3_checkIndex_8e157_15 : vm_at cJ3_checkIndex_8e157 15 (.athrow) 1 16 := ⟨vm_row tbJ3_checkIndex_8e157 9 rfl, rfl⟩
theorem dJ3_checkIndex_8e157_16 : vm_at cJ3_checkIndex_8e157 16 (.iload_n 0) 1 17 ∧ ((0 : Fin 4) : Nat) = 0 := ⟨⟨vm_row tbJ3_checkIndex_8e157 10 rfl, rfl⟩, rfl⟩
theorem dJ3_checkIndex_8e157_17 : vm_at cJ3_checkIndex_8e157 17 (.ireturn) 1 18 := ⟨vm_row tbJ3_checkIndex_8e157 11 rfl, rfl⟩
