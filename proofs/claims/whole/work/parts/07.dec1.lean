def vm_chk (c : ByteArray) (l : List (Nat × Instr × Nat)) : Bool := l.all (fun q => decide (decode c q.1 = .ok (q.2.1, q.2.2)))
theorem vm_row {c : ByteArray} {l : List (Nat × Instr × Nat)} (h : vm_chk c l = true) (i : Nat) {pc n : Nat} {a : Instr} (hq : l[i]? = some (pc, a, n)) : decode c pc = .ok (a, n) := by
  have h1 := List.all_eq_true.mp h _ (List.mem_of_getElem? hq)
  exact of_decide_eq_true h1
theorem z_bipush_m128 : (Int8.ofInt (-128)).toInt32 = (-128 : Int32) := by decide +kernel
theorem z_bipush_m10 : (Int8.ofInt (-10)).toInt32 = (-10 : Int32) := by decide +kernel
theorem z_bipush_6 : (Int8.ofInt (6)).toInt32 = (6 : Int32) := by decide +kernel
theorem z_bipush_7 : (Int8.ofInt (7)).toInt32 = (7 : Int32) := by decide +kernel
theorem z_bipush_8 : (Int8.ofInt (8)).toInt32 = (8 : Int32) := by decide +kernel
theorem z_bipush_9 : (Int8.ofInt (9)).toInt32 = (9 : Int32) := by decide +kernel
theorem z_bipush_10 : (Int8.ofInt (10)).toInt32 = (10 : Int32) := by decide +kernel
theorem z_bipush_14 : (Int8.ofInt (14)).toInt32 = (14 : Int32) := by decide +kernel
theorem z_bipush_15 : (Int8.ofInt (15)).toInt32 = (15 : Int32) := by decide +kernel
theorem z_bipush_16 : (Int8.ofInt (16)).toInt32 = (16 : Int32) := by decide +kernel
theorem z_bipush_31 : (Int8.ofInt (31)).toInt32 = (31 : Int32) := by decide +kernel
theorem z_bipush_32 : (Int8.ofInt (32)).toInt32 = (32 : Int32) := by decide +kernel
theorem z_bipush_40 : (Int8.ofInt (40)).toInt32 = (40 : Int32) := by decide +kernel
theorem z_bipush_48 : (Int8.ofInt (48)).toInt32 = (48 : Int32) := by decide +kernel
theorem z_bipush_57 : (Int8.ofInt (57)).toInt32 = (57 : Int32) := by decide +kernel
theorem z_bipush_59 : (Int8.ofInt (59)).toInt32 = (59 : Int32) := by decide +kernel
theorem z_bipush_63 : (Int8.ofInt (63)).toInt32 = (63 : Int32) := by decide +kernel
theorem z_bipush_97 : (Int8.ofInt (97)).toInt32 = (97 : Int32) := by decide +kernel
theorem z_bipush_99 : (Int8.ofInt (99)).toInt32 = (99 : Int32) := by decide +kernel
theorem z_bipush_100 : (Int8.ofInt (100)).toInt32 = (100 : Int32) := by decide +kernel
theorem z_bipush_122 : (Int8.ofInt (122)).toInt32 = (122 : Int32) := by decide +kernel
theorem z_bipush_127 : (Int8.ofInt (127)).toInt32 = (127 : Int32) := by decide +kernel
theorem z_iconst_m1 : Int32.ofInt (-1) = (-1 : Int32) := by decide +kernel
theorem z_iconst_0 : Int32.ofInt (0) = (0 : Int32) := by decide +kernel
theorem z_iconst_1 : Int32.ofInt (1) = (1 : Int32) := by decide +kernel
theorem z_iconst_2 : Int32.ofInt (2) = (2 : Int32) := by decide +kernel
theorem z_iconst_3 : Int32.ofInt (3) = (3 : Int32) := by decide +kernel
theorem z_iconst_4 : Int32.ofInt (4) = (4 : Int32) := by decide +kernel
theorem z_iconst_5 : Int32.ofInt (5) = (5 : Int32) := by decide +kernel
theorem z_sipush_255 : (Int16.ofInt (255)).toInt32 = (255 : Int32) := by decide +kernel
theorem z_sipush_256 : (Int16.ofInt (256)).toInt32 = (256 : Int32) := by decide +kernel
theorem z_sipush_400 : (Int16.ofInt (400)).toInt32 = (400 : Int32) := by decide +kernel
theorem z_sipush_602 : (Int16.ofInt (602)).toInt32 = (602 : Int32) := by decide +kernel
theorem z_sipush_999 : (Int16.ofInt (999)).toInt32 = (999 : Int32) := by decide +kernel
theorem z_sipush_1000 : (Int16.ofInt (1000)).toInt32 = (1000 : Int32) := by decide +kernel
theorem z_sipush_2048 : (Int16.ofInt (2048)).toInt32 = (2048 : Int32) := by decide +kernel
def tlX0_append : List (Nat × Instr × Nat) := [(0, .aload_n 0, 1), (1, .getfield 18, 3), (4, .ifCond .lt 42, 3), (7, .aload_n 0, 1), (8, .getfield 18, 3), (11, .bipush 40, 2), (13, .if_icmp .ge 33, 3), (16, .aload_n 0, 1), (17, .getfield 9, 3), (20, .aload_n 0, 1), (21, .getfield 18, 3), (24, .iload_n 1, 1), (25, .iastore, 1), (26, .aload_n 0, 1), (27, .getfield 15, 3), (30, .aload_n 0, 1), (31, .getfield 18, 3), (34, .iload_n 2, 1), (35, .iastore, 1), (36, .aload_n 0, 1), (37, .dup, 1), (38, .getfield 18, 3), (41, .iconst 1, 1), (42, .iadd, 1), (43, .putfield 18, 3), (46, .return_, 1)]
theorem tbX0_append : vm_chk cX0_append tlX0_append = true := by decide +kernel
theorem dX0_append_0 : vm_at cX0_append 0 (.aload_n 0) 1 1 ∧ ((0 : Fin 4) : Nat) = 0 := ⟨⟨vm_row tbX0_append 0 rfl, rfl⟩, rfl⟩
theorem dX0_append_1 : vm_at cX0_append 1 (.getfield 18) 3 4 := ⟨vm_row tbX0_append 1 rfl, rfl⟩
theorem dX0_append_4 : vm_br cX0_append 4 (.ifCond .lt 42) 3 7 (42) 46 := ⟨vm_row tbX0_append 2 rfl, rfl, rfl⟩
theorem dX0_append_7 : vm_at cX0_append 7 (.aload_n 0) 1 8 ∧ ((0 : Fin 4) : Nat) = 0 := ⟨⟨vm_row tbX0_append 3 rfl, rfl⟩, rfl⟩
theorem dX0_append_8 : vm_at cX0_append 8 (.getfield 18) 3 11 := ⟨vm_row tbX0_append 4 rfl, rfl⟩
theorem dX0_append_11 : vm_at cX0_append 11 (.bipush 40) 2 13 ∧ (Int8.ofInt (40)).toInt32 = (40 : Int32) := ⟨⟨vm_row tbX0_append 5 rfl, rfl⟩, z_bipush_40⟩
theorem dX0_append_13 : vm_br cX0_append 13 (.if_icmp .ge 33) 3 16 (33) 46 := ⟨vm_row tbX0_append 6 rfl, rfl, rfl⟩
theorem dX0_append_16 : vm_at cX0_append 16 (.aload_n 0) 1 17 ∧ ((0 : Fin 4) : Nat) = 0 := ⟨⟨vm_row tbX0_append 7 rfl, rfl⟩, rfl⟩
theorem dX0_append_17 : vm_at cX0_append 17 (.getfield 9) 3 20 := ⟨vm_row tbX0_append 8 rfl, rfl⟩
theorem dX0_append_20 : vm_at cX0_append 20 (.aload_n 0) 1 21 ∧ ((0 : Fin 4) : Nat) = 0 := ⟨⟨vm_row tbX0_append 9 rfl, rfl⟩, rfl⟩
theorem dX0_append_21 : vm_at cX0_append 21 (.getfield 18) 3 24 := ⟨vm_row tbX0_append 10 rfl, rfl⟩
theorem dX0_append_24 : vm_at cX0_append 24 (.iload_n 1) 1 25 ∧ ((1 : Fin 4) : Nat) = 1 := ⟨⟨vm_row tbX0_append 11 rfl, rfl⟩, rfl⟩
theorem dX0_append_25 : vm_at cX0_append 25 (.iastore) 1 26 := ⟨vm_row tbX0_append 12 rfl, rfl⟩
theorem dX0_append_26 : vm_at cX0_append 26 (.aload_n 0) 1 27 ∧ ((0 : Fin 4) : Nat) = 0 := ⟨⟨vm_row tbX0_append 13 rfl, rfl⟩, rfl⟩
theorem dX0_append_27 : vm_at cX0_append 27 (.getfield 15) 3 30 := ⟨vm_row tbX0_append 14 rfl, rfl⟩
theorem dX0_append_30 : vm_at cX0_append 30 (.aload_n 0) 1 31 ∧ ((0 : Fin 4) : Nat) = 0 := ⟨⟨vm_row tbX0_append 15 rfl, rfl⟩, rfl⟩
theorem dX0_append_31 : vm_at cX0_append 31 (.getfield 18) 3 34 := ⟨vm_row tbX0_append 16 rfl, rfl⟩
theorem dX0_append_34 : vm_at cX0_append 34 (.iload_n 2) 1 35 ∧ ((2 : Fin 4) : Nat) = 2 := ⟨⟨vm_row tbX0_append 17 rfl, rfl⟩, rfl⟩
theorem dX0_append_35 : vm_at cX0_append 35 (.iastore) 1 36 := ⟨vm_row tbX0_append 18 rfl, rfl⟩
theorem dX0_append_36 : vm_at cX0_append 36 (.aload_n 0) 1 37 ∧ ((0 : Fin 4) : Nat) = 0 := ⟨⟨vm_row tbX0_append 19 rfl, rfl⟩, rfl⟩
theorem dX0_append_37 : vm_at cX0_append 37 (.dup) 1 38 := ⟨vm_row tbX0_append 20 rfl, rfl⟩
theorem dX0_append_38 : vm_at cX0_append 38 (.getfield 18) 3 41 := ⟨vm_row tbX0_append 21 rfl, rfl⟩
theorem dX0_append_41 : vm_at cX0_append 41 (.iconst 1) 1 42 ∧ Int32.ofInt (1) = (1 : Int32) := ⟨⟨vm_row tbX0_append 22 rfl, rfl⟩, z_iconst_1⟩
theorem dX0_append_42 : vm_at cX0_append 42 (.iadd) 1 43 := ⟨vm_row tbX0_append 23 rfl, rfl⟩
theorem dX0_append_43 : vm_at cX0_append 43 (.putfield 18) 3 46 := ⟨vm_row tbX0_append 24 rfl, rfl⟩
theorem dX0_append_46 : vm_at cX0_append 46 (.return_) 1 47 := ⟨vm_row tbX0_append 25 rfl, rfl⟩
def tlX0_firstWrong : List (Nat × Instr × Nat) := [(0, .iload_n 2, 1), (1, .istore_n 3, 1), (2, .iconst 0, 1), (3, .istore 4, 2), (5, .iload 4, 2), (7, .aload_n 0, 1), (8, .getfield 18, 3), (11, .if_icmp .ge 43, 3), (14, .aload_n 1, 1), (15, .iload_n 3, 1), (16, .aload_n 0, 1), (17, .getfield 9, 3), (20, .iload 4, 2), (22, .invokestatic 22, 3), (25, .invokevirtual 26, 3), (28, .istore_n 3, 1), (29, .iload_n 3, 1), (30, .invokestatic 32, 3), (33, .aload_n 0, 1), (34, .getfield 15, 3), (37, .iload 4, 2), (39, .invokestatic 22, 3), (42, .if_icmp .eq 6, 3), (45, .iload 4, 2), (47, .ireturn, 1), (48, .iinc 4 1, 3), (51, .goto (-46), 3), (54, .iconst (-1), 1), (55, .ireturn, 1)]
theorem tbX0_firstWrong : vm_chk cX0_firstWrong tlX0_firstWrong = true := by decide +kernel
theorem dX0_firstWrong_0 : vm_at cX0_firstWrong 0 (.iload_n 2) 1 1 ∧ ((2 : Fin 4) : Nat) = 2 := ⟨⟨vm_row tbX0_firstWrong 0 rfl, rfl⟩, rfl⟩
theorem dX0_firstWrong_1 : vm_at cX0_firstWrong 1 (.istore_n 3) 1 2 ∧ ((3 : Fin 4) : Nat) = 3 := ⟨⟨vm_row tbX0_firstWrong 1 rfl, rfl⟩, rfl⟩
theorem dX0_firstWrong_2 : vm_at cX0_firstWrong 2 (.iconst 0) 1 3 ∧ Int32.ofInt (0) = (0 : Int32) := ⟨⟨vm_row tbX0_firstWrong 2 rfl, rfl⟩, z_iconst_0⟩
theorem dX0_firstWrong_3 : vm_at cX0_firstWrong 3 (.istore 4) 2 5 := ⟨vm_row tbX0_firstWrong 3 rfl, rfl⟩
theorem dX0_firstWrong_5 : vm_at cX0_firstWrong 5 (.iload 4) 2 7 := ⟨vm_row tbX0_firstWrong 4 rfl, rfl⟩
theorem dX0_firstWrong_7 : vm_at cX0_firstWrong 7 (.aload_n 0) 1 8 ∧ ((0 : Fin 4) : Nat) = 0 := ⟨⟨vm_row tbX0_firstWrong 5 rfl, rfl⟩, rfl⟩
theorem dX0_firstWrong_8 : vm_at cX0_firstWrong 8 (.getfield 18) 3 11 := ⟨vm_row tbX0_firstWrong 6 rfl, rfl⟩
theorem dX0_firstWrong_11 : vm_br cX0_firstWrong 11 (.if_icmp .ge 43) 3 14 (43) 54 := ⟨vm_row tbX0_firstWrong 7 rfl, rfl, rfl⟩
theorem dX0_firstWrong_14 : vm_at cX0_firstWrong 14 (.aload_n 1) 1 15 ∧ ((1 : Fin 4) : Nat) = 1 := ⟨⟨vm_row tbX0_firstWrong 8 rfl, rfl⟩, rfl⟩
theorem dX0_firstWrong_15 : vm_at cX0_firstWrong 15 (.iload_n 3) 1 16 ∧ ((3 : Fin 4) : Nat) = 3 := ⟨⟨vm_row tbX0_firstWrong 9 rfl, rfl⟩, rfl⟩
theorem dX0_firstWrong_16 : vm_at cX0_firstWrong 16 (.aload_n 0) 1 17 ∧ ((0 : Fin 4) : Nat) = 0 := ⟨⟨vm_row tbX0_firstWrong 10 rfl, rfl⟩, rfl⟩
theorem dX0_firstWrong_17 : vm_at cX0_firstWrong 17 (.getfield 9) 3 20 := ⟨vm_row tbX0_firstWrong 11 rfl, rfl⟩
theorem dX0_firstWrong_20 : vm_at cX0_firstWrong 20 (.iload 4) 2 22 := ⟨vm_row tbX0_firstWrong 12 rfl, rfl⟩
theorem dX0_firstWrong_22 : vm_at cX0_firstWrong 22 (.invokestatic 22) 3 25 := ⟨vm_row tbX0_firstWrong 13 rfl, rfl⟩
theorem dX0_firstWrong_25 : vm_at cX0_firstWrong 25 (.invokevirtual 26) 3 28 := ⟨vm_row tbX0_firstWrong 14 rfl, rfl⟩
theorem dX0_firstWrong_28 : vm_at cX0_firstWrong 28 (.istore_n 3) 1 29 ∧ ((3 : Fin 4) : Nat) = 3 := ⟨⟨vm_row tbX0_firstWrong 15 rfl, rfl⟩, rfl⟩
theorem dX0_firstWrong_29 : vm_at cX0_firstWrong 29 (.iload_n 3) 1 30 ∧ ((3 : Fin 4) : Nat) = 3 := ⟨⟨vm_row tbX0_firstWrong 16 rfl, rfl⟩, rfl⟩
theorem dX0_firstWrong_30 : vm_at cX0_firstWrong 30 (.invokestatic 32) 3 33 := ⟨vm_row tbX0_firstWrong 17 rfl, rfl⟩
theorem dX0_firstWrong_33 : vm_at cX0_firstWrong 33 (.aload_n 0) 1 34 ∧ ((0 : Fin 4) : Nat) = 0 := ⟨⟨vm_row tbX0_firstWrong 18 rfl, rfl⟩, rfl⟩
theorem dX0_firstWrong_34 : vm_at cX0_firstWrong 34 (.getfield 15) 3 37 := ⟨vm_row tbX0_firstWrong 19 rfl, rfl⟩
theorem dX0_firstWrong_37 : vm_at cX0_firstWrong 37 (.iload 4) 2 39 := ⟨vm_row tbX0_firstWrong 20 rfl, rfl⟩
theorem dX0_firstWrong_39 : vm_at cX0_firstWrong 39 (.invokestatic 22) 3 42 := ⟨vm_row tbX0_firstWrong 21 rfl, rfl⟩
theorem dX0_firstWrong_42 : vm_br cX0_firstWrong 42 (.if_icmp .eq 6) 3 45 (6) 48 := ⟨vm_row tbX0_firstWrong 22 rfl, rfl, rfl⟩
theorem dX0_firstWrong_45 : vm_at cX0_firstWrong 45 (.iload 4) 2 47 := ⟨vm_row tbX0_firstWrong 23 rfl, rfl⟩
theorem dX0_firstWrong_47 : vm_at cX0_firstWrong 47 (.ireturn) 1 48 := ⟨vm_row tbX0_firstWrong 24 rfl, rfl⟩
theorem dX0_firstWrong_48 : vm_at cX0_firstWrong 48 (.iinc 4 1) 3 51 ∧ Int32.ofInt (1) = (1 : Int32) := ⟨⟨vm_row tbX0_firstWrong 25 rfl, rfl⟩, z_iconst_1⟩
theorem dX0_firstWrong_51 : vm_br cX0_firstWrong 51 (.goto (-46)) 3 54 (-46) 5 := ⟨vm_row tbX0_firstWrong 26 rfl, rfl, rfl⟩
theorem dX0_firstWrong_54 : vm_at cX0_firstWrong 54 (.iconst (-1)) 1 55 ∧ Int32.ofInt (-1) = (-1 : Int32) := ⟨⟨vm_row tbX0_firstWrong 27 rfl, rfl⟩, z_iconst_m1⟩
theorem dX0_firstWrong_55 : vm_at cX0_firstWrong 55 (.ireturn) 1 56 := ⟨vm_row tbX0_firstWrong 28 rfl, rfl⟩
def tlX1_fewestForAll : List (Nat × Instr × Nat) := [(0, .aload_n 0, 1), (1, .getfield 9, 3), (4, .iconst 0, 1), (5, .aload_n 2, 1), (6, .getfield 35, 3), (9, .invokestatic 40, 3), (12, .aload_n 0, 1), (13, .getfield 15, 3), (16, .iconst 0, 1), (17, .iconst 0, 1), (18, .invokestatic 40, 3), (21, .aload_n 0, 1), (22, .iconst 1, 1), (23, .putfield 18, 3), (26, .iconst 0, 1), (27, .istore_n 3, 1), (28, .iload_n 3, 1), (29, .aload_n 2, 1), (30, .getfield 44, 3), (33, .if_icmp .ge 76, 3), (36, .aload_n 2, 1), (37, .getfield 47, 3), (40, .iload_n 3, 1), (41, .invokestatic 50, 3), (44, .istore 4, 2), (46, .iload_n 3, 1), (47, .ifCond .le 21, 3), (50, .iload 4, 2), (52, .aload_n 2, 1), (53, .getfield 47, 3), (56, .iload_n 3, 1), (57, .iconst 1, 1), (58, .isub, 1), (59, .invokestatic 50, 3), (62, .if_icmp .ne 6, 3), (65, .goto 38, 3), (68, .aload_n 0, 1), (69, .aload_n 1, 1), (70, .iload 4, 2), (72, .iload_n 3, 1), (73, .aload_n 2, 1), (74, .getfield 44, 3), (77, .iconst 1, 1), (78, .isub, 1), (79, .if_icmp .ne 7, 3), (82, .iconst 1, 1), (83, .goto 4, 3), (86, .iconst 0, 1), (87, .invokevirtual 54, 3), (90, .aload_n 0, 1), (91, .getfield 28, 3), (94, .ifCond .ne 5, 3), (97, .iconst (-1), 1), (98, .ireturn, 1), (99, .aload_n 0, 1), (100, .invokevirtual 58, 3), (103, .iinc 3 1, 3), (106, .goto (-78), 3), (109, .aload_n 0, 1), (110, .getfield 15, 3), (113, .iconst 0, 1), (114, .invokestatic 50, 3), (117, .ireturn, 1)]
theorem tbX1_fewestForAll : vm_chk cX1_fewestForAll tlX1_fewestForAll = true := by decide +kernel
theorem dX1_fewestForAll_0 : vm_at cX1_fewestForAll 0 (.aload_n 0) 1 1 ∧ ((0 : Fin 4) : Nat) = 0 := ⟨⟨vm_row tbX1_fewestForAll 0 rfl, rfl⟩, rfl⟩
theorem dX1_fewestForAll_1 : vm_at cX1_fewestForAll 1 (.getfield 9) 3 4 := ⟨vm_row tbX1_fewestForAll 1 rfl, rfl⟩
theorem dX1_fewestForAll_4 : vm_at cX1_fewestForAll 4 (.iconst 0) 1 5 ∧ Int32.ofInt (0) = (0 : Int32) := ⟨⟨vm_row tbX1_fewestForAll 2 rfl, rfl⟩, z_iconst_0⟩
theorem dX1_fewestForAll_5 : vm_at cX1_fewestForAll 5 (.aload_n 2) 1 6 ∧ ((2 : Fin 4) : Nat) = 2 := ⟨⟨vm_row tbX1_fewestForAll 3 rfl, rfl⟩, rfl⟩
theorem dX1_fewestForAll_6 : vm_at cX1_fewestForAll 6 (.getfield 35) 3 9 := ⟨vm_row tbX1_fewestForAll 4 rfl, rfl⟩
theorem dX1_fewestForAll_9 : vm_at cX1_fewestForAll 9 (.invokestatic 40) 3 12 := ⟨vm_row tbX1_fewestForAll 5 rfl, rfl⟩
theorem dX1_fewestForAll_12 : vm_at cX1_fewestForAll 12 (.aload_n 0) 1 13 ∧ ((0 : Fin 4) : Nat) = 0 := ⟨⟨vm_row tbX1_fewestForAll 6 rfl, rfl⟩, rfl⟩
theorem dX1_fewestForAll_13 : vm_at cX1_fewestForAll 13 (.getfield 15) 3 16 := ⟨vm_row tbX1_fewestForAll 7 rfl, rfl⟩
theorem dX1_fewestForAll_16 : vm_at cX1_fewestForAll 16 (.iconst 0) 1 17 ∧ Int32.ofInt (0) = (0 : Int32) := ⟨⟨vm_row tbX1_fewestForAll 8 rfl, rfl⟩, z_iconst_0⟩
theorem dX1_fewestForAll_17 : vm_at cX1_fewestForAll 17 (.iconst 0) 1 18 ∧ Int32.ofInt (0) = (0 : Int32) := ⟨⟨vm_row tbX1_fewestForAll 9 rfl, rfl⟩, z_iconst_0⟩
theorem dX1_fewestForAll_18 : vm_at cX1_fewestForAll 18 (.invokestatic 40) 3 21 := ⟨vm_row tbX1_fewestForAll 10 rfl, rfl⟩
theorem dX1_fewestForAll_21 : vm_at cX1_fewestForAll 21 (.aload_n 0) 1 22 ∧ ((0 : Fin 4) : Nat) = 0 := ⟨⟨vm_row tbX1_fewestForAll 11 rfl, rfl⟩, rfl⟩
theorem dX1_fewestForAll_22 : vm_at cX1_fewestForAll 22 (.iconst 1) 1 23 ∧ Int32.ofInt (1) = (1 : Int32) := ⟨⟨vm_row tbX1_fewestForAll 12 rfl, rfl⟩, z_iconst_1⟩
theorem dX1_fewestForAll_23 : vm_at cX1_fewestForAll 23 (.putfield 18) 3 26 := ⟨vm_row tbX1_fewestForAll 13 rfl, rfl⟩
theorem dX1_fewestForAll_26 : vm_at cX1_fewestForAll 26 (.iconst 0) 1 27 ∧ Int32.ofInt (0) = (0 : Int32) := ⟨⟨vm_row tbX1_fewestForAll 14 rfl, rfl⟩, z_iconst_0⟩
theorem dX1_fewestForAll_27 : vm_at cX1_fewestForAll 27 (.istore_n 3) 1 28 ∧ ((3 : Fin 4) : Nat) = 3 := ⟨⟨vm_row tbX1_fewestForAll 15 rfl, rfl⟩, rfl⟩
theorem dX1_fewestForAll_28 : vm_at cX1_fewestForAll 28 (.iload_n 3) 1 29 ∧ ((3 : Fin 4) : Nat) = 3 := ⟨⟨vm_row tbX1_fewestForAll 16 rfl, rfl⟩, rfl⟩
theorem dX1_fewestForAll_29 : vm_at cX1_fewestForAll 29 (.aload_n 2) 1 30 ∧ ((2 : Fin 4) : Nat) = 2 := ⟨⟨vm_row tbX1_fewestForAll 17 rfl, rfl⟩, rfl⟩
theorem dX1_fewestForAll_30 : vm_at cX1_fewestForAll 30 (.getfield 44) 3 33 := ⟨vm_row tbX1_fewestForAll 18 rfl, rfl⟩
theorem dX1_fewestForAll_33 : vm_br cX1_fewestForAll 33 (.if_icmp .ge 76) 3 36 (76) 109 := ⟨vm_row tbX1_fewestForAll 19 rfl, rfl, rfl⟩
theorem dX1_fewestForAll_36 : vm_at cX1_fewestForAll 36 (.aload_n 2) 1 37 ∧ ((2 : Fin 4) : Nat) = 2 := ⟨⟨vm_row tbX1_fewestForAll 20 rfl, rfl⟩, rfl⟩
theorem dX1_fewestForAll_37 : vm_at cX1_fewestForAll 37 (.getfield 47) 3 40 := ⟨vm_row tbX1_fewestForAll 21 rfl, rfl⟩
theorem dX1_fewestForAll_40 : vm_at cX1_fewestForAll 40 (.iload_n 3) 1 41 ∧ ((3 : Fin 4) : Nat) = 3 := ⟨⟨vm_row tbX1_fewestForAll 22 rfl, rfl⟩, rfl⟩
theorem dX1_fewestForAll_41 : vm_at cX1_fewestForAll 41 (.invokestatic 50) 3 44 := ⟨vm_row tbX1_fewestForAll 23 rfl, rfl⟩
theorem dX1_fewestForAll_44 : vm_at cX1_fewestForAll 44 (.istore 4) 2 46 := ⟨vm_row tbX1_fewestForAll 24 rfl, rfl⟩
theorem dX1_fewestForAll_46 : vm_at cX1_fewestForAll 46 (.iload_n 3) 1 47 ∧ ((3 : Fin 4) : Nat) = 3 := ⟨⟨vm_row tbX1_fewestForAll 25 rfl, rfl⟩, rfl⟩
theorem dX1_fewestForAll_47 : vm_br cX1_fewestForAll 47 (.ifCond .le 21) 3 50 (21) 68 := ⟨vm_row tbX1_fewestForAll 26 rfl, rfl, rfl⟩
theorem dX1_fewestForAll_50 : vm_at cX1_fewestForAll 50 (.iload 4) 2 52 := ⟨vm_row tbX1_fewestForAll 27 rfl, rfl⟩
theorem dX1_fewestForAll_52 : vm_at cX1_fewestForAll 52 (.aload_n 2) 1 53 ∧ ((2 : Fin 4) : Nat) = 2 := ⟨⟨vm_row tbX1_fewestForAll 28 rfl, rfl⟩, rfl⟩
theorem dX1_fewestForAll_53 : vm_at cX1_fewestForAll 53 (.getfield 47) 3 56 := ⟨vm_row tbX1_fewestForAll 29 rfl, rfl⟩
theorem dX1_fewestForAll_56 : vm_at cX1_fewestForAll 56 (.iload_n 3) 1 57 ∧ ((3 : Fin 4) : Nat) = 3 := ⟨⟨vm_row tbX1_fewestForAll 30 rfl, rfl⟩, rfl⟩
theorem dX1_fewestForAll_57 : vm_at cX1_fewestForAll 57 (.iconst 1) 1 58 ∧ Int32.ofInt (1) = (1 : Int32) := ⟨⟨vm_row tbX1_fewestForAll 31 rfl, rfl⟩, z_iconst_1⟩
theorem dX1_fewestForAll_58 : vm_at cX1_fewestForAll 58 (.isub) 1 59 := ⟨vm_row tbX1_fewestForAll 32 rfl, rfl⟩
theorem dX1_fewestForAll_59 : vm_at cX1_fewestForAll 59 (.invokestatic 50) 3 62 := ⟨vm_row tbX1_fewestForAll 33 rfl, rfl⟩
theorem dX1_fewestForAll_62 : vm_br cX1_fewestForAll 62 (.if_icmp .ne 6) 3 65 (6) 68 := ⟨vm_row tbX1_fewestForAll 34 rfl, rfl, rfl⟩
theorem dX1_fewestForAll_65 : vm_br cX1_fewestForAll 65 (.goto 38) 3 68 (38) 103 := ⟨vm_row tbX1_fewestForAll 35 rfl, rfl, rfl⟩
theorem dX1_fewestForAll_68 : vm_at cX1_fewestForAll 68 (.aload_n 0) 1 69 ∧ ((0 : Fin 4) : Nat) = 0 := ⟨⟨vm_row tbX1_fewestForAll 36 rfl, rfl⟩, rfl⟩
theorem dX1_fewestForAll_69 : vm_at cX1_fewestForAll 69 (.aload_n 1) 1 70 ∧ ((1 : Fin 4) : Nat) = 1 := ⟨⟨vm_row tbX1_fewestForAll 37 rfl, rfl⟩, rfl⟩
theorem dX1_fewestForAll_70 : vm_at cX1_fewestForAll 70 (.iload 4) 2 72 := ⟨vm_row tbX1_fewestForAll 38 rfl, rfl⟩
theorem dX1_fewestForAll_72 : vm_at cX1_fewestForAll 72 (.iload_n 3) 1 73 ∧ ((3 : Fin 4) : Nat) = 3 := ⟨⟨vm_row tbX1_fewestForAll 39 rfl, rfl⟩, rfl⟩
theorem dX1_fewestForAll_73 : vm_at cX1_fewestForAll 73 (.aload_n 2) 1 74 ∧ ((2 : Fin 4) : Nat) = 2 := ⟨⟨vm_row tbX1_fewestForAll 40 rfl, rfl⟩, rfl⟩
theorem dX1_fewestForAll_74 : vm_at cX1_fewestForAll 74 (.getfield 44) 3 77 := ⟨vm_row tbX1_fewestForAll 41 rfl, rfl⟩
theorem dX1_fewestForAll_77 : vm_at cX1_fewestForAll 77 (.iconst 1) 1 78 ∧ Int32.ofInt (1) = (1 : Int32) := ⟨⟨vm_row tbX1_fewestForAll 42 rfl, rfl⟩, z_iconst_1⟩
theorem dX1_fewestForAll_78 : vm_at cX1_fewestForAll 78 (.isub) 1 79 := ⟨vm_row tbX1_fewestForAll 43 rfl, rfl⟩
theorem dX1_fewestForAll_79 : vm_br cX1_fewestForAll 79 (.if_icmp .ne 7) 3 82 (7) 86 := ⟨vm_row tbX1_fewestForAll 44 rfl, rfl, rfl⟩
theorem dX1_fewestForAll_82 : vm_at cX1_fewestForAll 82 (.iconst 1) 1 83 ∧ Int32.ofInt (1) = (1 : Int32) := ⟨⟨vm_row tbX1_fewestForAll 45 rfl, rfl⟩, z_iconst_1⟩
theorem dX1_fewestForAll_83 : vm_br cX1_fewestForAll 83 (.goto 4) 3 86 (4) 87 := ⟨vm_row tbX1_fewestForAll 46 rfl, rfl, rfl⟩
theorem dX1_fewestForAll_86 : vm_at cX1_fewestForAll 86 (.iconst 0) 1 87 ∧ Int32.ofInt (0) = (0 : Int32) := ⟨⟨vm_row tbX1_fewestForAll 47 rfl, rfl⟩, z_iconst_0⟩
theorem dX1_fewestForAll_87 : vm_at cX1_fewestForAll 87 (.invokevirtual 54) 3 90 := ⟨vm_row tbX1_fewestForAll 48 rfl, rfl⟩
theorem dX1_fewestForAll_90 : vm_at cX1_fewestForAll 90 (.aload_n 0) 1 91 ∧ ((0 : Fin 4) : Nat) = 0 := ⟨⟨vm_row tbX1_fewestForAll 49 rfl, rfl⟩, rfl⟩
theorem dX1_fewestForAll_91 : vm_at cX1_fewestForAll 91 (.getfield 28) 3 94 := ⟨vm_row tbX1_fewestForAll 50 rfl, rfl⟩
theorem dX1_fewestForAll_94 : vm_br cX1_fewestForAll 94 (.ifCond .ne 5) 3 97 (5) 99 := ⟨vm_row tbX1_fewestForAll 51 rfl, rfl, rfl⟩
theorem dX1_fewestForAll_97 : vm_at cX1_fewestForAll 97 (.iconst (-1)) 1 98 ∧ Int32.ofInt (-1) = (-1 : Int32) := ⟨⟨vm_row tbX1_fewestForAll 52 rfl, rfl⟩, z_iconst_m1⟩
theorem dX1_fewestForAll_98 : vm_at cX1_fewestForAll 98 (.ireturn) 1 99 := ⟨vm_row tbX1_fewestForAll 53 rfl, rfl⟩
theorem dX1_fewestForAll_99 : vm_at cX1_fewestForAll 99 (.aload_n 0) 1 100 ∧ ((0 : Fin 4) : Nat) = 0 := ⟨⟨vm_row tbX1_fewestForAll 54 rfl, rfl⟩, rfl⟩
theorem dX1_fewestForAll_100 : vm_at cX1_fewestForAll 100 (.invokevirtual 58) 3 103 := ⟨vm_row tbX1_fewestForAll 55 rfl, rfl⟩
theorem dX1_fewestForAll_103 : vm_at cX1_fewestForAll 103 (.iinc 3 1) 3 106 ∧ Int32.ofInt (1) = (1 : Int32) := ⟨⟨vm_row tbX1_fewestForAll 56 rfl, rfl⟩, z_iconst_1⟩
theorem dX1_fewestForAll_106 : vm_br cX1_fewestForAll 106 (.goto (-78)) 3 109 (-78) 28 := ⟨vm_row tbX1_fewestForAll 57 rfl, rfl, rfl⟩
theorem dX1_fewestForAll_109 : vm_at cX1_fewestForAll 109 (.aload_n 0) 1 110 ∧ ((0 : Fin 4) : Nat) = 0 := ⟨⟨vm_row tbX1_fewestForAll 58 rfl, rfl⟩, rfl⟩
theorem dX1_fewestForAll_110 : vm_at cX1_fewestForAll 110 (.getfield 15) 3 113 := ⟨vm_row tbX1_fewestForAll 59 rfl, rfl⟩
theorem dX1_fewestForAll_113 : vm_at cX1_fewestForAll 113 (.iconst 0) 1 114 ∧ Int32.ofInt (0) = (0 : Int32) := ⟨⟨vm_row tbX1_fewestForAll 60 rfl, rfl⟩, z_iconst_0⟩
theorem dX1_fewestForAll_114 : vm_at cX1_fewestForAll 114 (.invokestatic 50) 3 117 := ⟨vm_row tbX1_fewestForAll 61 rfl, rfl⟩
theorem dX1_fewestForAll_117 : vm_at cX1_fewestForAll 117 (.ireturn) 1 118 := ⟨vm_row tbX1_fewestForAll 62 rfl, rfl⟩
def tlX1_endsBecomeStarts : List (Nat × Instr × Nat) := [(0, .aload_n 0, 1), (1, .getfield 9, 3), (4, .astore_n 1, 1), (5, .aload_n 0, 1), (6, .getfield 15, 3), (9, .astore_n 2, 1), (10, .aload_n 0, 1), (11, .aload_n 0, 1), (12, .getfield 22, 3), (15, .putfield 9, 3), (18, .aload_n 0, 1), (19, .aload_n 0, 1), (20, .getfield 25, 3), (23, .putfield 15, 3), (26, .aload_n 0, 1), (27, .aload_n 0, 1), (28, .getfield 28, 3), (31, .putfield 18, 3), (34, .aload_n 0, 1), (35, .aload_n 1, 1), (36, .putfield 22, 3), (39, .aload_n 0, 1), (40, .aload_n 2, 1), (41, .putfield 25, 3), (44, .return_, 1)]
theorem tbX1_endsBecomeStarts : vm_chk cX1_endsBecomeStarts tlX1_endsBecomeStarts = true := by decide +kernel
theorem dX1_endsBecomeStarts_0 : vm_at cX1_endsBecomeStarts 0 (.aload_n 0) 1 1 ∧ ((0 : Fin 4) : Nat) = 0 := ⟨⟨vm_row tbX1_endsBecomeStarts 0 rfl, rfl⟩, rfl⟩
theorem dX1_endsBecomeStarts_1 : vm_at cX1_endsBecomeStarts 1 (.getfield 9) 3 4 := ⟨vm_row tbX1_endsBecomeStarts 1 rfl, rfl⟩
theorem dX1_endsBecomeStarts_4 : vm_at cX1_endsBecomeStarts 4 (.astore_n 1) 1 5 ∧ ((1 : Fin 4) : Nat) = 1 := ⟨⟨vm_row tbX1_endsBecomeStarts 2 rfl, rfl⟩, rfl⟩
theorem dX1_endsBecomeStarts_5 : vm_at cX1_endsBecomeStarts 5 (.aload_n 0) 1 6 ∧ ((0 : Fin 4) : Nat) = 0 := ⟨⟨vm_row tbX1_endsBecomeStarts 3 rfl, rfl⟩, rfl⟩
theorem dX1_endsBecomeStarts_6 : vm_at cX1_endsBecomeStarts 6 (.getfield 15) 3 9 := ⟨vm_row tbX1_endsBecomeStarts 4 rfl, rfl⟩
theorem dX1_endsBecomeStarts_9 : vm_at cX1_endsBecomeStarts 9 (.astore_n 2) 1 10 ∧ ((2 : Fin 4) : Nat) = 2 := ⟨⟨vm_row tbX1_endsBecomeStarts 5 rfl, rfl⟩, rfl⟩
theorem dX1_endsBecomeStarts_10 : vm_at cX1_endsBecomeStarts 10 (.aload_n 0) 1 11 ∧ ((0 : Fin 4) : Nat) = 0 := ⟨⟨vm_row tbX1_endsBecomeStarts 6 rfl, rfl⟩, rfl⟩
theorem dX1_endsBecomeStarts_11 : vm_at cX1_endsBecomeStarts 11 (.aload_n 0) 1 12 ∧ ((0 : Fin 4) : Nat) = 0 := ⟨⟨vm_row tbX1_endsBecomeStarts 7 rfl, rfl⟩, rfl⟩
theorem dX1_endsBecomeStarts_12 : vm_at cX1_endsBecomeStarts 12 (.getfield 22) 3 15 := ⟨vm_row tbX1_endsBecomeStarts 8 rfl, rfl⟩
theorem dX1_endsBecomeStarts_15 : vm_at cX1_endsBecomeStarts 15 (.putfield 9) 3 18 := ⟨vm_row tbX1_endsBecomeStarts 9 rfl, rfl⟩
theorem dX1_endsBecomeStarts_18 : vm_at cX1_endsBecomeStarts 18 (.aload_n 0) 1 19 ∧ ((0 : Fin 4) : Nat) = 0 := ⟨⟨vm_row tbX1_endsBecomeStarts 10 rfl, rfl⟩, rfl⟩
theorem dX1_endsBecomeStarts_19 : vm_at cX1_endsBecomeStarts 19 (.aload_n 0) 1 20 ∧ ((0 : Fin 4) : Nat) = 0 := ⟨⟨vm_row tbX1_endsBecomeStarts 11 rfl, rfl⟩, rfl⟩
theorem dX1_endsBecomeStarts_20 : vm_at cX1_endsBecomeStarts 20 (.getfield 25) 3 23 := ⟨vm_row tbX1_endsBecomeStarts 12 rfl, rfl⟩
theorem dX1_endsBecomeStarts_23 : vm_at cX1_endsBecomeStarts 23 (.putfield 15) 3 26 := ⟨vm_row tbX1_endsBecomeStarts 13 rfl, rfl⟩
theorem dX1_endsBecomeStarts_26 : vm_at cX1_endsBecomeStarts 26 (.aload_n 0) 1 27 ∧ ((0 : Fin 4) : Nat) = 0 := ⟨⟨vm_row tbX1_endsBecomeStarts 14 rfl, rfl⟩, rfl⟩
theorem dX1_endsBecomeStarts_27 : vm_at cX1_endsBecomeStarts 27 (.aload_n 0) 1 28 ∧ ((0 : Fin 4) : Nat) = 0 := ⟨⟨vm_row tbX1_endsBecomeStarts 15 rfl, rfl⟩, rfl⟩
theorem dX1_endsBecomeStarts_28 : vm_at cX1_endsBecomeStarts 28 (.getfield 28) 3 31 := ⟨vm_row tbX1_endsBecomeStarts 16 rfl, rfl⟩
theorem dX1_endsBecomeStarts_31 : vm_at cX1_endsBecomeStarts 31 (.putfield 18) 3 34 := ⟨vm_row tbX1_endsBecomeStarts 17 rfl, rfl⟩
theorem dX1_endsBecomeStarts_34 : vm_at cX1_endsBecomeStarts 34 (.aload_n 0) 1 35 ∧ ((0 : Fin 4) : Nat) = 0 := ⟨⟨vm_row tbX1_endsBecomeStarts 18 rfl, rfl⟩, rfl⟩
theorem dX1_endsBecomeStarts_35 : vm_at cX1_endsBecomeStarts 35 (.aload_n 1) 1 36 ∧ ((1 : Fin 4) : Nat) = 1 := ⟨⟨vm_row tbX1_endsBecomeStarts 19 rfl, rfl⟩, rfl⟩
theorem dX1_endsBecomeStarts_36 : vm_at cX1_endsBecomeStarts 36 (.putfield 22) 3 39 := ⟨vm_row tbX1_endsBecomeStarts 20 rfl, rfl⟩
theorem dX1_endsBecomeStarts_39 : vm_at cX1_endsBecomeStarts 39 (.aload_n 0) 1 40 ∧ ((0 : Fin 4) : Nat) = 0 := ⟨⟨vm_row tbX1_endsBecomeStarts 21 rfl, rfl⟩, rfl⟩
theorem dX1_endsBecomeStarts_40 : vm_at cX1_endsBecomeStarts 40 (.aload_n 2) 1 41 ∧ ((2 : Fin 4) : Nat) = 2 := ⟨⟨vm_row tbX1_endsBecomeStarts 22 rfl, rfl⟩, rfl⟩
theorem dX1_endsBecomeStarts_41 : vm_at cX1_endsBecomeStarts 41 (.putfield 25) 3 44 := ⟨vm_row tbX1_endsBecomeStarts 23 rfl, rfl⟩
theorem dX1_endsBecomeStarts_44 : vm_at cX1_endsBecomeStarts 44 (.return_) 1 45 := ⟨vm_row tbX1_endsBecomeStarts 24 rfl, rfl⟩
def tlX1_spread : List (Nat × Instr × Nat) := [(0, .aload_n 0, 1), (1, .getfield 31, 3), (4, .invokevirtual 61, 3), (7, .aload_n 0, 1), (8, .iconst 0, 1), (9, .putfield 28, 3), (12, .iconst 0, 1), (13, .istore 4, 2), (15, .iconst 0, 1), (16, .istore 5, 2), (18, .iconst 0, 1), (19, .istore 6, 2), (21, .iload 6, 2), (23, .ldc 66, 2), (25, .if_icmp .ge 196, 3), (28, .iload 5, 2), (30, .aload_n 0, 1), (31, .getfield 31, 3), (34, .getfield 67, 3), (37, .if_icmp .lt 7, 3), (40, .iconst 1, 1), (41, .goto 4, 3), (44, .iconst 0, 1), (45, .istore 7, 2), (47, .iload 7, 2), (49, .ifCond .eq 12, 3), (52, .iload 4, 2), (54, .aload_n 0, 1), (55, .getfield 18, 3), (58, .if_icmp .ge 163, 3), (61, .iload_n 3, 1), (62, .ifCond .eq 13, 3), (65, .aload_n 0, 1), (66, .getfield 28, 3), (69, .ifCond .le 6, 3), (72, .goto 149, 3), (75, .iload 7, 2), (77, .ifCond .eq 15, 3), (80, .aload_n 0, 1), (81, .getfield 15, 3), (84, .iload 4, 2), (86, .invokestatic 50, 3), (89, .goto 17, 3), (92, .aload_n 0, 1), (93, .getfield 31, 3), (96, .getfield 70, 3), (99, .iload 5, 2), (101, .invokestatic 50, 3), (104, .iconst 1, 1), (105, .iadd, 1), (106, .istore 8, 2), (108, .iload 4, 2), (110, .aload_n 0, 1), (111, .getfield 18, 3), (114, .if_icmp .ge 46, 3), (117, .aload_n 0, 1), (118, .getfield 15, 3), (121, .iload 4, 2), (123, .invokestatic 50, 3), (126, .iload 8, 2), (128, .if_icmp .gt 32, 3), (131, .aload_n 0, 1), (132, .aload_n 0, 1), (133, .getfield 9, 3), (136, .iload 4, 2), (138, .invokestatic 50, 3), (141, .aload_n 0, 1), (142, .getfield 15, 3), (145, .iload 4, 2), (147, .invokestatic 50, 3), (150, .iload_n 2, 1), (151, .invokevirtual 73, 3), (154, .iinc 4 1, 3), (157, .goto (-49), 3), (160, .iload 7, 2), (162, .ifCond .ne 53, 3), (165, .aload_n 0, 1), (166, .getfield 31, 3), (169, .getfield 77, 3), (172, .iload 5, 2), (174, .invokestatic 50, 3), (177, .istore 9, 2), (179, .iconst 0, 1), (180, .istore 10, 2), (182, .iload 10, 2), (184, .aload_n 1, 1), (185, .getfield 80, 3), (188, .if_icmp .ge 24, 3), (191, .aload_n 0, 1), (192, .aload_n 1, 1), (193, .iload 9, 2), (195, .iload 10, 2), (197, .invokevirtual 85, 3), (200, .iload 8, 2), (202, .iload_n 2, 1), (203, .invokevirtual 73, 3), (206, .iinc 10 1, 3), (209, .goto (-27), 3), (212, .iinc 5 1, 3), (215, .iinc 6 1, 3), (218, .goto (-197), 3), (221, .return_, 1)]
theorem tbX1_spread : vm_chk cX1_spread tlX1_spread = true := by decide +kernel
theorem dX1_spread_0 : vm_at cX1_spread 0 (.aload_n 0) 1 1 ∧ ((0 : Fin 4) : Nat) = 0 := ⟨⟨vm_row tbX1_spread 0 rfl, rfl⟩, rfl⟩
theorem dX1_spread_1 : vm_at cX1_spread 1 (.getfield 31) 3 4 := ⟨vm_row tbX1_spread 1 rfl, rfl⟩
theorem dX1_spread_4 : vm_at cX1_spread 4 (.invokevirtual 61) 3 7 := ⟨vm_row tbX1_spread 2 rfl, rfl⟩
theorem dX1_spread_7 : vm_at cX1_spread 7 (.aload_n 0) 1 8 ∧ ((0 : Fin 4) : Nat) = 0 := ⟨⟨vm_row tbX1_spread 3 rfl, rfl⟩, rfl⟩
theorem dX1_spread_8 : vm_at cX1_spread 8 (.iconst 0) 1 9 ∧ Int32.ofInt (0) = (0 : Int32) := ⟨⟨vm_row tbX1_spread 4 rfl, rfl⟩, z_iconst_0⟩
theorem dX1_spread_9 : vm_at cX1_spread 9 (.putfield 28) 3 12 := ⟨vm_row tbX1_spread 5 rfl, rfl⟩
theorem dX1_spread_12 : vm_at cX1_spread 12 (.iconst 0) 1 13 ∧ Int32.ofInt (0) = (0 : Int32) := ⟨⟨vm_row tbX1_spread 6 rfl, rfl⟩, z_iconst_0⟩
theorem dX1_spread_13 : vm_at cX1_spread 13 (.istore 4) 2 15 := ⟨vm_row tbX1_spread 7 rfl, rfl⟩
theorem dX1_spread_15 : vm_at cX1_spread 15 (.iconst 0) 1 16 ∧ Int32.ofInt (0) = (0 : Int32) := ⟨⟨vm_row tbX1_spread 8 rfl, rfl⟩, z_iconst_0⟩
theorem dX1_spread_16 : vm_at cX1_spread 16 (.istore 5) 2 18 := ⟨vm_row tbX1_spread 9 rfl, rfl⟩
theorem dX1_spread_18 : vm_at cX1_spread 18 (.iconst 0) 1 19 ∧ Int32.ofInt (0) = (0 : Int32) := ⟨⟨vm_row tbX1_spread 10 rfl, rfl⟩, z_iconst_0⟩
theorem dX1_spread_19 : vm_at cX1_spread 19 (.istore 6) 2 21 := ⟨vm_row tbX1_spread 11 rfl, rfl⟩
theorem dX1_spread_21 : vm_at cX1_spread 21 (.iload 6) 2 23 := ⟨vm_row tbX1_spread 12 rfl, rfl⟩
theorem dX1_spread_23 : vm_at cX1_spread 23 (.ldc 66) 2 25 := ⟨vm_row tbX1_spread 13 rfl, rfl⟩
theorem dX1_spread_25 : vm_br cX1_spread 25 (.if_icmp .ge 196) 3 28 (196) 221 := ⟨vm_row tbX1_spread 14 rfl, rfl, rfl⟩
theorem dX1_spread_28 : vm_at cX1_spread 28 (.iload 5) 2 30 := ⟨vm_row tbX1_spread 15 rfl, rfl⟩
theorem dX1_spread_30 : vm_at cX1_spread 30 (.aload_n 0) 1 31 ∧ ((0 : Fin 4) : Nat) = 0 := ⟨⟨vm_row tbX1_spread 16 rfl, rfl⟩, rfl⟩
theorem dX1_spread_31 : vm_at cX1_spread 31 (.getfield 31) 3 34 := ⟨vm_row tbX1_spread 17 rfl, rfl⟩
theorem dX1_spread_34 : vm_at cX1_spread 34 (.getfield 67) 3 37 := ⟨vm_row tbX1_spread 18 rfl, rfl⟩
theorem dX1_spread_37 : vm_br cX1_spread 37 (.if_icmp .lt 7) 3 40 (7) 44 := ⟨vm_row tbX1_spread 19 rfl, rfl, rfl⟩
theorem dX1_spread_40 : vm_at cX1_spread 40 (.iconst 1) 1 41 ∧ Int32.ofInt (1) = (1 : Int32) := ⟨⟨vm_row tbX1_spread 20 rfl, rfl⟩, z_iconst_1⟩
theorem dX1_spread_41 : vm_br cX1_spread 41 (.goto 4) 3 44 (4) 45 := ⟨vm_row tbX1_spread 21 rfl, rfl, rfl⟩
theorem dX1_spread_44 : vm_at cX1_spread 44 (.iconst 0) 1 45 ∧ Int32.ofInt (0) = (0 : Int32) := ⟨⟨vm_row tbX1_spread 22 rfl, rfl⟩, z_iconst_0⟩
theorem dX1_spread_45 : vm_at cX1_spread 45 (.istore 7) 2 47 := ⟨vm_row tbX1_spread 23 rfl, rfl⟩
theorem dX1_spread_47 : vm_at cX1_spread 47 (.iload 7) 2 49 := ⟨vm_row tbX1_spread 24 rfl, rfl⟩
theorem dX1_spread_49 : vm_br cX1_spread 49 (.ifCond .eq 12) 3 52 (12) 61 := ⟨vm_row tbX1_spread 25 rfl, rfl, rfl⟩
theorem dX1_spread_52 : vm_at cX1_spread 52 (.iload 4) 2 54 := ⟨vm_row tbX1_spread 26 rfl, rfl⟩
theorem dX1_spread_54 : vm_at cX1_spread 54 (.aload_n 0) 1 55 ∧ ((0 : Fin 4) : Nat) = 0 := ⟨⟨vm_row tbX1_spread 27 rfl, rfl⟩, rfl⟩
theorem dX1_spread_55 : vm_at cX1_spread 55 (.getfield 18) 3 58 := ⟨vm_row tbX1_spread 28 rfl, rfl⟩
theorem dX1_spread_58 : vm_br cX1_spread 58 (.if_icmp .ge 163) 3 61 (163) 221 := ⟨vm_row tbX1_spread 29 rfl, rfl, rfl⟩
theorem dX1_spread_61 : vm_at cX1_spread 61 (.iload_n 3) 1 62 ∧ ((3 : Fin 4) : Nat) = 3 := ⟨⟨vm_row tbX1_spread 30 rfl, rfl⟩, rfl⟩
theorem dX1_spread_62 : vm_br cX1_spread 62 (.ifCond .eq 13) 3 65 (13) 75 := ⟨vm_row tbX1_spread 31 rfl, rfl, rfl⟩
theorem dX1_spread_65 : vm_at cX1_spread 65 (.aload_n 0) 1 66 ∧ ((0 : Fin 4) : Nat) = 0 := ⟨⟨vm_row tbX1_spread 32 rfl, rfl⟩, rfl⟩
theorem dX1_spread_66 : vm_at cX1_spread 66 (.getfield 28) 3 69 := ⟨vm_row tbX1_spread 33 rfl, rfl⟩
theorem dX1_spread_69 : vm_br cX1_spread 69 (.ifCond .le 6) 3 72 (6) 75 := ⟨vm_row tbX1_spread 34 rfl, rfl, rfl⟩
theorem dX1_spread_72 : vm_br cX1_spread 72 (.goto 149) 3 75 (149) 221 := ⟨vm_row tbX1_spread 35 rfl, rfl, rfl⟩
theorem dX1_spread_75 : vm_at cX1_spread 75 (.iload 7) 2 77 := ⟨vm_row tbX1_spread 36 rfl, rfl⟩
theorem dX1_spread_77 : vm_br cX1_spread 77 (.ifCond .eq 15) 3 80 (15) 92 := ⟨vm_row tbX1_spread 37 rfl, rfl, rfl⟩
theorem dX1_spread_80 : vm_at cX1_spread 80 (.aload_n 0) 1 81 ∧ ((0 : Fin 4) : Nat) = 0 := ⟨⟨vm_row tbX1_spread 38 rfl, rfl⟩, rfl⟩
theorem dX1_spread_81 : vm_at cX1_spread 81 (.getfield 15) 3 84 := ⟨vm_row tbX1_spread 39 rfl, rfl⟩
theorem dX1_spread_84 : vm_at cX1_spread 84 (.iload 4) 2 86 := ⟨vm_row tbX1_spread 40 rfl, rfl⟩
theorem dX1_spread_86 : vm_at cX1_spread 86 (.invokestatic 50) 3 89 := ⟨vm_row tbX1_spread 41 rfl, rfl⟩
theorem dX1_spread_89 : vm_br cX1_spread 89 (.goto 17) 3 92 (17) 106 := ⟨vm_row tbX1_spread 42 rfl, rfl, rfl⟩
theorem dX1_spread_92 : vm_at cX1_spread 92 (.aload_n 0) 1 93 ∧ ((0 : Fin 4) : Nat) = 0 := ⟨⟨vm_row tbX1_spread 43 rfl, rfl⟩, rfl⟩
theorem dX1_spread_93 : vm_at cX1_spread 93 (.getfield 31) 3 96 := ⟨vm_row tbX1_spread 44 rfl, rfl⟩
theorem dX1_spread_96 : vm_at cX1_spread 96 (.getfield 70) 3 99 := ⟨vm_row tbX1_spread 45 rfl, rfl⟩
theorem dX1_spread_99 : vm_at cX1_spread 99 (.iload 5) 2 101 := ⟨vm_row tbX1_spread 46 rfl, rfl⟩
theorem dX1_spread_101 : vm_at cX1_spread 101 (.invokestatic 50) 3 104 := ⟨vm_row tbX1_spread 47 rfl, rfl⟩
theorem dX1_spread_104 : vm_at cX1_spread 104 (.iconst 1) 1 105 ∧ Int32.ofInt (1) = (1 : Int32) := ⟨⟨vm_row tbX1_spread 48 rfl, rfl⟩, z_iconst_1⟩
theorem dX1_spread_105 : vm_at cX1_spread 105 (.iadd) 1 106 := ⟨vm_row tbX1_spread 49 rfl, rfl⟩
theorem dX1_spread_106 : vm_at cX1_spread 106 (.istore 8) 2 108 := ⟨vm_row tbX1_spread 50 rfl, rfl⟩
theorem dX1_spread_108 : vm_at cX1_spread 108 (.iload 4) 2 110 := ⟨vm_row tbX1_spread 51 rfl, rfl⟩
theorem dX1_spread_110 : vm_at cX1_spread 110 (.aload_n 0) 1 111 ∧ ((0 : Fin 4) : Nat) = 0 := ⟨⟨vm_row tbX1_spread 52 rfl, rfl⟩, rfl⟩
theorem dX1_spread_111 : vm_at cX1_spread 111 (.getfield 18) 3 114 := ⟨vm_row tbX1_spread 53 rfl, rfl⟩
theorem dX1_spread_114 : vm_br cX1_spread 114 (.if_icmp .ge 46) 3 117 (46) 160 := ⟨vm_row tbX1_spread 54 rfl, rfl, rfl⟩
theorem dX1_spread_117 : vm_at cX1_spread 117 (.aload_n 0) 1 118 ∧ ((0 : Fin 4) : Nat) = 0 := ⟨⟨vm_row tbX1_spread 55 rfl, rfl⟩, rfl⟩
theorem dX1_spread_118 : vm_at cX1_spread 118 (.getfield 15) 3 121 := ⟨vm_row tbX1_spread 56 rfl, rfl⟩
theorem dX1_spread_121 : vm_at cX1_spread 121 (.iload 4) 2 123 := ⟨vm_row tbX1_spread 57 rfl, rfl⟩
theorem dX1_spread_123 : vm_at cX1_spread 123 (.invokestatic 50) 3 126 := ⟨vm_row tbX1_spread 58 rfl, rfl⟩
theorem dX1_spread_126 : vm_at cX1_spread 126 (.iload 8) 2 128 := ⟨vm_row tbX1_spread 59 rfl, rfl⟩
theorem dX1_spread_128 : vm_br cX1_spread 128 (.if_icmp .gt 32) 3 131 (32) 160 := ⟨vm_row tbX1_spread 60 rfl, rfl, rfl⟩
theorem dX1_spread_131 : vm_at cX1_spread 131 (.aload_n 0) 1 132 ∧ ((0 : Fin 4) : Nat) = 0 := ⟨⟨vm_row tbX1_spread 61 rfl, rfl⟩, rfl⟩
theorem dX1_spread_132 : vm_at cX1_spread 132 (.aload_n 0) 1 133 ∧ ((0 : Fin 4) : Nat) = 0 := ⟨⟨vm_row tbX1_spread 62 rfl, rfl⟩, rfl⟩
theorem dX1_spread_133 : vm_at cX1_spread 133 (.getfield 9) 3 136 := ⟨vm_row tbX1_spread 63 rfl, rfl⟩
theorem dX1_spread_136 : vm_at cX1_spread 136 (.iload 4) 2 138 := ⟨vm_row tbX1_spread 64 rfl, rfl⟩
theorem dX1_spread_138 : vm_at cX1_spread 138 (.invokestatic 50) 3 141 := ⟨vm_row tbX1_spread 65 rfl, rfl⟩
theorem dX1_spread_141 : vm_at cX1_spread 141 (.aload_n 0) 1 142 ∧ ((0 : Fin 4) : Nat) = 0 := ⟨⟨vm_row tbX1_spread 66 rfl, rfl⟩, rfl⟩
theorem dX1_spread_142 : vm_at cX1_spread 142 (.getfield 15) 3 145 := ⟨vm_row tbX1_spread 67 rfl, rfl⟩
theorem dX1_spread_145 : vm_at cX1_spread 145 (.iload 4) 2 147 := ⟨vm_row tbX1_spread 68 rfl, rfl⟩
theorem dX1_spread_147 : vm_at cX1_spread 147 (.invokestatic 50) 3 150 := ⟨vm_row tbX1_spread 69 rfl, rfl⟩
theorem dX1_spread_150 : vm_at cX1_spread 150 (.iload_n 2) 1 151 ∧ ((2 : Fin 4) : Nat) = 2 := ⟨⟨vm_row tbX1_spread 70 rfl, rfl⟩, rfl⟩
theorem dX1_spread_151 : vm_at cX1_spread 151 (.invokevirtual 73) 3 154 := ⟨vm_row tbX1_spread 71 rfl, rfl⟩
theorem dX1_spread_154 : vm_at cX1_spread 154 (.iinc 4 1) 3 157 ∧ Int32.ofInt (1) = (1 : Int32) := ⟨⟨vm_row tbX1_spread 72 rfl, rfl⟩, z_iconst_1⟩
theorem dX1_spread_157 : vm_br cX1_spread 157 (.goto (-49)) 3 160 (-49) 108 := ⟨vm_row tbX1_spread 73 rfl, rfl, rfl⟩
theorem dX1_spread_160 : vm_at cX1_spread 160 (.iload 7) 2 162 := ⟨vm_row tbX1_spread 74 rfl, rfl⟩
theorem dX1_spread_162 : vm_br cX1_spread 162 (.ifCond .ne 53) 3 165 (53) 215 := ⟨vm_row tbX1_spread 75 rfl, rfl, rfl⟩
theorem dX1_spread_165 : vm_at cX1_spread 165 (.aload_n 0) 1 166 ∧ ((0 : Fin 4) : Nat) = 0 := ⟨⟨vm_row tbX1_spread 76 rfl, rfl⟩, rfl⟩
theorem dX1_spread_166 : vm_at cX1_spread 166 (.getfield 31) 3 169 := ⟨vm_row tbX1_spread 77 rfl, rfl⟩
theorem dX1_spread_169 : vm_at cX1_spread 169 (.getfield 77) 3 172 := ⟨vm_row tbX1_spread 78 rfl, rfl⟩
theorem dX1_spread_172 : vm_at cX1_spread 172 (.iload 5) 2 174 := ⟨vm_row tbX1_spread 79 rfl, rfl⟩
theorem dX1_spread_174 : vm_at cX1_spread 174 (.invokestatic 50) 3 177 := ⟨vm_row tbX1_spread 80 rfl, rfl⟩
theorem dX1_spread_177 : vm_at cX1_spread 177 (.istore 9) 2 179 := ⟨vm_row tbX1_spread 81 rfl, rfl⟩
theorem dX1_spread_179 : vm_at cX1_spread 179 (.iconst 0) 1 180 ∧ Int32.ofInt (0) = (0 : Int32) := ⟨⟨vm_row tbX1_spread 82 rfl, rfl⟩, z_iconst_0⟩
theorem dX1_spread_180 : vm_at cX1_spread 180 (.istore 10) 2 182 := ⟨vm_row tbX1_spread 83 rfl, rfl⟩
theorem dX1_spread_182 : vm_at cX1_spread 182 (.iload 10) 2 184 := ⟨vm_row tbX1_spread 84 rfl, rfl⟩
theorem dX1_spread_184 : vm_at cX1_spread 184 (.aload_n 1) 1 185 ∧ ((1 : Fin 4) : Nat) = 1 := ⟨⟨vm_row tbX1_spread 85 rfl, rfl⟩, rfl⟩
theorem dX1_spread_185 : vm_at cX1_spread 185 (.getfield 80) 3 188 := ⟨vm_row tbX1_spread 86 rfl, rfl⟩
theorem dX1_spread_188 : vm_br cX1_spread 188 (.if_icmp .ge 24) 3 191 (24) 212 := ⟨vm_row tbX1_spread 87 rfl, rfl, rfl⟩
theorem dX1_spread_191 : vm_at cX1_spread 191 (.aload_n 0) 1 192 ∧ ((0 : Fin 4) : Nat) = 0 := ⟨⟨vm_row tbX1_spread 88 rfl, rfl⟩, rfl⟩
theorem dX1_spread_192 : vm_at cX1_spread 192 (.aload_n 1) 1 193 ∧ ((1 : Fin 4) : Nat) = 1 := ⟨⟨vm_row tbX1_spread 89 rfl, rfl⟩, rfl⟩
theorem dX1_spread_193 : vm_at cX1_spread 193 (.iload 9) 2 195 := ⟨vm_row tbX1_spread 90 rfl, rfl⟩
theorem dX1_spread_195 : vm_at cX1_spread 195 (.iload 10) 2 197 := ⟨vm_row tbX1_spread 91 rfl, rfl⟩
theorem dX1_spread_197 : vm_at cX1_spread 197 (.invokevirtual 85) 3 200 := ⟨vm_row tbX1_spread 92 rfl, rfl⟩
theorem dX1_spread_200 : vm_at cX1_spread 200 (.iload 8) 2 202 := ⟨vm_row tbX1_spread 93 rfl, rfl⟩
theorem dX1_spread_202 : vm_at cX1_spread 202 (.iload_n 2) 1 203 ∧ ((2 : Fin 4) : Nat) = 2 := ⟨⟨vm_row tbX1_spread 94 rfl, rfl⟩, rfl⟩
theorem dX1_spread_203 : vm_at cX1_spread 203 (.invokevirtual 73) 3 206 := ⟨vm_row tbX1_spread 95 rfl, rfl⟩
theorem dX1_spread_206 : vm_at cX1_spread 206 (.iinc 10 1) 3 209 ∧ Int32.ofInt (1) = (1 : Int32) := ⟨⟨vm_row tbX1_spread 96 rfl, rfl⟩, z_iconst_1⟩
theorem dX1_spread_209 : vm_br cX1_spread 209 (.goto (-27)) 3 212 (-27) 182 := ⟨vm_row tbX1_spread 97 rfl, rfl, rfl⟩
theorem dX1_spread_212 : vm_at cX1_spread 212 (.iinc 5 1) 3 215 ∧ Int32.ofInt (1) = (1 : Int32) := ⟨⟨vm_row tbX1_spread 98 rfl, rfl⟩, z_iconst_1⟩
theorem dX1_spread_215 : vm_at cX1_spread 215 (.iinc 6 1) 3 218 ∧ Int32.ofInt (1) = (1 : Int32) := ⟨⟨vm_row tbX1_spread 99 rfl, rfl⟩, z_iconst_1⟩
theorem dX1_spread_218 : vm_br cX1_spread 218 (.goto (-197)) 3 221 (-197) 21 := ⟨vm_row tbX1_spread 100 rfl, rfl, rfl⟩
theorem dX1_spread_221 : vm_at cX1_spread 221 (.return_) 1 222 := ⟨vm_row tbX1_spread 101 rfl, rfl⟩
def tlX1_meet : List (Nat × Instr × Nat) := [(0, .aload_n 0, 1), (1, .getfield 31, 3), (4, .iload_n 1, 1), (5, .invokevirtual 89, 3), (8, .ifCond .ne 4, 3), (11, .return_, 1), (12, .iload_n 1, 1), (13, .invokestatic 93, 3), (16, .iload_n 3, 1), (17, .if_icmp .eq 15, 3), (20, .aload_n 0, 1), (21, .getfield 31, 3), (24, .iload_n 1, 1), (25, .iload_n 2, 1), (26, .invokevirtual 97, 3), (29, .goto 47, 3), (32, .aload_n 0, 1), (33, .getfield 28, 3), (36, .sipush 602, 3), (39, .if_icmp .ge 37, 3), (42, .aload_n 0, 1), (43, .getfield 22, 3), (46, .aload_n 0, 1), (47, .getfield 28, 3), (50, .iload_n 1, 1), (51, .invokestatic 40, 3), (54, .aload_n 0, 1), (55, .getfield 25, 3), (58, .aload_n 0, 1), (59, .getfield 28, 3), (62, .iload_n 2, 1), (63, .invokestatic 40, 3), (66, .aload_n 0, 1), (67, .dup, 1), (68, .getfield 28, 3), (71, .iconst 1, 1), (72, .iadd, 1), (73, .putfield 28, 3), (76, .return_, 1)]
theorem tbX1_meet : vm_chk cX1_meet tlX1_meet = true := by decide +kernel
theorem dX1_meet_0 : vm_at cX1_meet 0 (.aload_n 0) 1 1 ∧ ((0 : Fin 4) : Nat) = 0 := ⟨⟨vm_row tbX1_meet 0 rfl, rfl⟩, rfl⟩
theorem dX1_meet_1 : vm_at cX1_meet 1 (.getfield 31) 3 4 := ⟨vm_row tbX1_meet 1 rfl, rfl⟩
theorem dX1_meet_4 : vm_at cX1_meet 4 (.iload_n 1) 1 5 ∧ ((1 : Fin 4) : Nat) = 1 := ⟨⟨vm_row tbX1_meet 2 rfl, rfl⟩, rfl⟩
theorem dX1_meet_5 : vm_at cX1_meet 5 (.invokevirtual 89) 3 8 := ⟨vm_row tbX1_meet 3 rfl, rfl⟩
theorem dX1_meet_8 : vm_br cX1_meet 8 (.ifCond .ne 4) 3 11 (4) 12 := ⟨vm_row tbX1_meet 4 rfl, rfl, rfl⟩
theorem dX1_meet_11 : vm_at cX1_meet 11 (.return_) 1 12 := ⟨vm_row tbX1_meet 5 rfl, rfl⟩
theorem dX1_meet_12 : vm_at cX1_meet 12 (.iload_n 1) 1 13 ∧ ((1 : Fin 4) : Nat) = 1 := ⟨⟨vm_row tbX1_meet 6 rfl, rfl⟩, rfl⟩
theorem dX1_meet_13 : vm_at cX1_meet 13 (.invokestatic 93) 3 16 := ⟨vm_row tbX1_meet 7 rfl, rfl⟩
theorem dX1_meet_16 : vm_at cX1_meet 16 (.iload_n 3) 1 17 ∧ ((3 : Fin 4) : Nat) = 3 := ⟨⟨vm_row tbX1_meet 8 rfl, rfl⟩, rfl⟩
theorem dX1_meet_17 : vm_br cX1_meet 17 (.if_icmp .eq 15) 3 20 (15) 32 := ⟨vm_row tbX1_meet 9 rfl, rfl, rfl⟩
theorem dX1_meet_20 : vm_at cX1_meet 20 (.aload_n 0) 1 21 ∧ ((0 : Fin 4) : Nat) = 0 := ⟨⟨vm_row tbX1_meet 10 rfl, rfl⟩, rfl⟩
theorem dX1_meet_21 : vm_at cX1_meet 21 (.getfield 31) 3 24 := ⟨vm_row tbX1_meet 11 rfl, rfl⟩
theorem dX1_meet_24 : vm_at cX1_meet 24 (.iload_n 1) 1 25 ∧ ((1 : Fin 4) : Nat) = 1 := ⟨⟨vm_row tbX1_meet 12 rfl, rfl⟩, rfl⟩
theorem dX1_meet_25 : vm_at cX1_meet 25 (.iload_n 2) 1 26 ∧ ((2 : Fin 4) : Nat) = 2 := ⟨⟨vm_row tbX1_meet 13 rfl, rfl⟩, rfl⟩
theorem dX1_meet_26 : vm_at cX1_meet 26 (.invokevirtual 97) 3 29 := ⟨vm_row tbX1_meet 14 rfl, rfl⟩
theorem dX1_meet_29 : vm_br cX1_meet 29 (.goto 47) 3 32 (47) 76 := ⟨vm_row tbX1_meet 15 rfl, rfl, rfl⟩
theorem dX1_meet_32 : vm_at cX1_meet 32 (.aload_n 0) 1 33 ∧ ((0 : Fin 4) : Nat) = 0 := ⟨⟨vm_row tbX1_meet 16 rfl, rfl⟩, rfl⟩
theorem dX1_meet_33 : vm_at cX1_meet 33 (.getfield 28) 3 36 := ⟨vm_row tbX1_meet 17 rfl, rfl⟩
theorem dX1_meet_36 : vm_at cX1_meet 36 (.sipush 602) 3 39 ∧ (Int16.ofInt (602)).toInt32 = (602 : Int32) := ⟨⟨vm_row tbX1_meet 18 rfl, rfl⟩, z_sipush_602⟩
theorem dX1_meet_39 : vm_br cX1_meet 39 (.if_icmp .ge 37) 3 42 (37) 76 := ⟨vm_row tbX1_meet 19 rfl, rfl, rfl⟩
theorem dX1_meet_42 : vm_at cX1_meet 42 (.aload_n 0) 1 43 ∧ ((0 : Fin 4) : Nat) = 0 := ⟨⟨vm_row tbX1_meet 20 rfl, rfl⟩, rfl⟩
theorem dX1_meet_43 : vm_at cX1_meet 43 (.getfield 22) 3 46 := ⟨vm_row tbX1_meet 21 rfl, rfl⟩
theorem dX1_meet_46 : vm_at cX1_meet 46 (.aload_n 0) 1 47 ∧ ((0 : Fin 4) : Nat) = 0 := ⟨⟨vm_row tbX1_meet 22 rfl, rfl⟩, rfl⟩
theorem dX1_meet_47 : vm_at cX1_meet 47 (.getfield 28) 3 50 := ⟨vm_row tbX1_meet 23 rfl, rfl⟩
theorem dX1_meet_50 : vm_at cX1_meet 50 (.iload_n 1) 1 51 ∧ ((1 : Fin 4) : Nat) = 1 := ⟨⟨vm_row tbX1_meet 24 rfl, rfl⟩, rfl⟩
theorem dX1_meet_51 : vm_at cX1_meet 51 (.invokestatic 40) 3 54 := ⟨vm_row tbX1_meet 25 rfl, rfl⟩
theorem dX1_meet_54 : vm_at cX1_meet 54 (.aload_n 0) 1 55 ∧ ((0 : Fin 4) : Nat) = 0 := ⟨⟨vm_row tbX1_meet 26 rfl, rfl⟩, rfl⟩
theorem dX1_meet_55 : vm_at cX1_meet 55 (.getfield 25) 3 58 := ⟨vm_row tbX1_meet 27 rfl, rfl⟩
theorem dX1_meet_58 : vm_at cX1_meet 58 (.aload_n 0) 1 59 ∧ ((0 : Fin 4) : Nat) = 0 := ⟨⟨vm_row tbX1_meet 28 rfl, rfl⟩, rfl⟩
theorem dX1_meet_59 : vm_at cX1_meet 59 (.getfield 28) 3 62 := ⟨vm_row tbX1_meet 29 rfl, rfl⟩
theorem dX1_meet_62 : vm_at cX1_meet 62 (.iload_n 2) 1 63 ∧ ((2 : Fin 4) : Nat) = 2 := ⟨⟨vm_row tbX1_meet 30 rfl, rfl⟩, rfl⟩
theorem dX1_meet_63 : vm_at cX1_meet 63 (.invokestatic 40) 3 66 := ⟨vm_row tbX1_meet 31 rfl, rfl⟩
theorem dX1_meet_66 : vm_at cX1_meet 66 (.aload_n 0) 1 67 ∧ ((0 : Fin 4) : Nat) = 0 := ⟨⟨vm_row tbX1_meet 32 rfl, rfl⟩, rfl⟩
theorem dX1_meet_67 : vm_at cX1_meet 67 (.dup) 1 68 := ⟨vm_row tbX1_meet 33 rfl, rfl⟩
theorem dX1_meet_68 : vm_at cX1_meet 68 (.getfield 28) 3 71 := ⟨vm_row tbX1_meet 34 rfl, rfl⟩
theorem dX1_meet_71 : vm_at cX1_meet 71 (.iconst 1) 1 72 ∧ Int32.ofInt (1) = (1 : Int32) := ⟨⟨vm_row tbX1_meet 35 rfl, rfl⟩, z_iconst_1⟩
theorem dX1_meet_72 : vm_at cX1_meet 72 (.iadd) 1 73 := ⟨vm_row tbX1_meet 36 rfl, rfl⟩
theorem dX1_meet_73 : vm_at cX1_meet 73 (.putfield 28) 3 76 := ⟨vm_row tbX1_meet 37 rfl, rfl⟩
theorem dX1_meet_76 : vm_at cX1_meet 76 (.return_) 1 77 := ⟨vm_row tbX1_meet 38 rfl, rfl⟩
def tlX2_learn : List (Nat × Instr × Nat) := [(0, .aload_n 0, 1), (1, .getfield 25, 3), (4, .ifCond .eq 4, 3), (7, .return_, 1), (8, .aload_n 0, 1), (9, .getfield 29, 3), (12, .invokevirtual 33, 3), (15, .aload_n 0, 1), (16, .getfield 9, 3), (19, .iconst (-1), 1), (20, .invokestatic 38, 3), (23, .aload_n 0, 1), (24, .getfield 15, 3), (27, .iconst 0, 1), (28, .invokestatic 38, 3), (31, .aload_n 0, 1), (32, .aload_n 1, 1), (33, .getfield 44, 3), (36, .putfield 18, 3), (39, .aload_n 0, 1), (40, .iload_n 2, 1), (41, .iconst 0, 1), (42, .invokevirtual 49, 3), (45, .iconst 0, 1), (46, .istore_n 3, 1), (47, .iload_n 3, 1), (48, .ldc 53, 2), (50, .if_icmp .ge 93, 3), (53, .aload_n 0, 1), (54, .getfield 18, 3), (57, .ifCond .le 11, 3), (60, .aload_n 0, 1), (61, .aload_n 1, 1), (62, .invokevirtual 54, 3), (65, .goto 4, 3), (68, .iconst (-1), 1), (69, .istore 4, 2), (71, .iload 4, 2), (73, .iconst (-1), 1), (74, .if_icmp .ne 6, 3), (77, .goto 66, 3), (80, .aload_n 0, 1), (81, .getfield 29, 3), (84, .getfield 58, 3), (87, .aload_n 0, 1), (88, .getfield 15, 3), (91, .iload 4, 2), (93, .invokestatic 61, 3), (96, .invokestatic 61, 3), (99, .istore 5, 2), (101, .aload_n 0, 1), (102, .getfield 15, 3), (105, .iload 4, 2), (107, .aload_n 0, 1), (108, .getfield 15, 3), (111, .iload 4, 2), (113, .invokestatic 61, 3), (116, .iconst 1, 1), (117, .iadd, 1), (118, .invokestatic 65, 3), (121, .aload_n 0, 1), (122, .aload_n 1, 1), (123, .iload 5, 2), (125, .iload 4, 2), (127, .invokevirtual 69, 3), (130, .aload_n 0, 1), (131, .getfield 22, 3), (134, .invokevirtual 49, 3), (137, .iinc 3 1, 3), (140, .goto (-93), 3), (143, .aload_n 0, 1), (144, .iconst 1, 1), (145, .putfield 25, 3), (148, .return_, 1)]
theorem tbX2_learn : vm_chk cX2_learn tlX2_learn = true := by decide +kernel
theorem dX2_learn_0 : vm_at cX2_learn 0 (.aload_n 0) 1 1 ∧ ((0 : Fin 4) : Nat) = 0 := ⟨⟨vm_row tbX2_learn 0 rfl, rfl⟩, rfl⟩
theorem dX2_learn_1 : vm_at cX2_learn 1 (.getfield 25) 3 4 := ⟨vm_row tbX2_learn 1 rfl, rfl⟩
theorem dX2_learn_4 : vm_br cX2_learn 4 (.ifCond .eq 4) 3 7 (4) 8 := ⟨vm_row tbX2_learn 2 rfl, rfl, rfl⟩
theorem dX2_learn_7 : vm_at cX2_learn 7 (.return_) 1 8 := ⟨vm_row tbX2_learn 3 rfl, rfl⟩
theorem dX2_learn_8 : vm_at cX2_learn 8 (.aload_n 0) 1 9 ∧ ((0 : Fin 4) : Nat) = 0 := ⟨⟨vm_row tbX2_learn 4 rfl, rfl⟩, rfl⟩
theorem dX2_learn_9 : vm_at cX2_learn 9 (.getfield 29) 3 12 := ⟨vm_row tbX2_learn 5 rfl, rfl⟩
theorem dX2_learn_12 : vm_at cX2_learn 12 (.invokevirtual 33) 3 15 := ⟨vm_row tbX2_learn 6 rfl, rfl⟩
theorem dX2_learn_15 : vm_at cX2_learn 15 (.aload_n 0) 1 16 ∧ ((0 : Fin 4) : Nat) = 0 := ⟨⟨vm_row tbX2_learn 7 rfl, rfl⟩, rfl⟩
theorem dX2_learn_16 : vm_at cX2_learn 16 (.getfield 9) 3 19 := ⟨vm_row tbX2_learn 8 rfl, rfl⟩
theorem dX2_learn_19 : vm_at cX2_learn 19 (.iconst (-1)) 1 20 ∧ Int32.ofInt (-1) = (-1 : Int32) := ⟨⟨vm_row tbX2_learn 9 rfl, rfl⟩, z_iconst_m1⟩
theorem dX2_learn_20 : vm_at cX2_learn 20 (.invokestatic 38) 3 23 := ⟨vm_row tbX2_learn 10 rfl, rfl⟩
theorem dX2_learn_23 : vm_at cX2_learn 23 (.aload_n 0) 1 24 ∧ ((0 : Fin 4) : Nat) = 0 := ⟨⟨vm_row tbX2_learn 11 rfl, rfl⟩, rfl⟩
theorem dX2_learn_24 : vm_at cX2_learn 24 (.getfield 15) 3 27 := ⟨vm_row tbX2_learn 12 rfl, rfl⟩
theorem dX2_learn_27 : vm_at cX2_learn 27 (.iconst 0) 1 28 ∧ Int32.ofInt (0) = (0 : Int32) := ⟨⟨vm_row tbX2_learn 13 rfl, rfl⟩, z_iconst_0⟩
theorem dX2_learn_28 : vm_at cX2_learn 28 (.invokestatic 38) 3 31 := ⟨vm_row tbX2_learn 14 rfl, rfl⟩
theorem dX2_learn_31 : vm_at cX2_learn 31 (.aload_n 0) 1 32 ∧ ((0 : Fin 4) : Nat) = 0 := ⟨⟨vm_row tbX2_learn 15 rfl, rfl⟩, rfl⟩
theorem dX2_learn_32 : vm_at cX2_learn 32 (.aload_n 1) 1 33 ∧ ((1 : Fin 4) : Nat) = 1 := ⟨⟨vm_row tbX2_learn 16 rfl, rfl⟩, rfl⟩
theorem dX2_learn_33 : vm_at cX2_learn 33 (.getfield 44) 3 36 := ⟨vm_row tbX2_learn 17 rfl, rfl⟩
theorem dX2_learn_36 : vm_at cX2_learn 36 (.putfield 18) 3 39 := ⟨vm_row tbX2_learn 18 rfl, rfl⟩
theorem dX2_learn_39 : vm_at cX2_learn 39 (.aload_n 0) 1 40 ∧ ((0 : Fin 4) : Nat) = 0 := ⟨⟨vm_row tbX2_learn 19 rfl, rfl⟩, rfl⟩
theorem dX2_learn_40 : vm_at cX2_learn 40 (.iload_n 2) 1 41 ∧ ((2 : Fin 4) : Nat) = 2 := ⟨⟨vm_row tbX2_learn 20 rfl, rfl⟩, rfl⟩
theorem dX2_learn_41 : vm_at cX2_learn 41 (.iconst 0) 1 42 ∧ Int32.ofInt (0) = (0 : Int32) := ⟨⟨vm_row tbX2_learn 21 rfl, rfl⟩, z_iconst_0⟩
theorem dX2_learn_42 : vm_at cX2_learn 42 (.invokevirtual 49) 3 45 := ⟨vm_row tbX2_learn 22 rfl, rfl⟩
theorem dX2_learn_45 : vm_at cX2_learn 45 (.iconst 0) 1 46 ∧ Int32.ofInt (0) = (0 : Int32) := ⟨⟨vm_row tbX2_learn 23 rfl, rfl⟩, z_iconst_0⟩
theorem dX2_learn_46 : vm_at cX2_learn 46 (.istore_n 3) 1 47 ∧ ((3 : Fin 4) : Nat) = 3 := ⟨⟨vm_row tbX2_learn 24 rfl, rfl⟩, rfl⟩
theorem dX2_learn_47 : vm_at cX2_learn 47 (.iload_n 3) 1 48 ∧ ((3 : Fin 4) : Nat) = 3 := ⟨⟨vm_row tbX2_learn 25 rfl, rfl⟩, rfl⟩
theorem dX2_learn_48 : vm_at cX2_learn 48 (.ldc 53) 2 50 := ⟨vm_row tbX2_learn 26 rfl, rfl⟩
theorem dX2_learn_50 : vm_br cX2_learn 50 (.if_icmp .ge 93) 3 53 (93) 143 := ⟨vm_row tbX2_learn 27 rfl, rfl, rfl⟩
theorem dX2_learn_53 : vm_at cX2_learn 53 (.aload_n 0) 1 54 ∧ ((0 : Fin 4) : Nat) = 0 := ⟨⟨vm_row tbX2_learn 28 rfl, rfl⟩, rfl⟩
theorem dX2_learn_54 : vm_at cX2_learn 54 (.getfield 18) 3 57 := ⟨vm_row tbX2_learn 29 rfl, rfl⟩
theorem dX2_learn_57 : vm_br cX2_learn 57 (.ifCond .le 11) 3 60 (11) 68 := ⟨vm_row tbX2_learn 30 rfl, rfl, rfl⟩
theorem dX2_learn_60 : vm_at cX2_learn 60 (.aload_n 0) 1 61 ∧ ((0 : Fin 4) : Nat) = 0 := ⟨⟨vm_row tbX2_learn 31 rfl, rfl⟩, rfl⟩
theorem dX2_learn_61 : vm_at cX2_learn 61 (.aload_n 1) 1 62 ∧ ((1 : Fin 4) : Nat) = 1 := ⟨⟨vm_row tbX2_learn 32 rfl, rfl⟩, rfl⟩
theorem dX2_learn_62 : vm_at cX2_learn 62 (.invokevirtual 54) 3 65 := ⟨vm_row tbX2_learn 33 rfl, rfl⟩
theorem dX2_learn_65 : vm_br cX2_learn 65 (.goto 4) 3 68 (4) 69 := ⟨vm_row tbX2_learn 34 rfl, rfl, rfl⟩
theorem dX2_learn_68 : vm_at cX2_learn 68 (.iconst (-1)) 1 69 ∧ Int32.ofInt (-1) = (-1 : Int32) := ⟨⟨vm_row tbX2_learn 35 rfl, rfl⟩, z_iconst_m1⟩
theorem dX2_learn_69 : vm_at cX2_learn 69 (.istore 4) 2 71 := ⟨vm_row tbX2_learn 36 rfl, rfl⟩
theorem dX2_learn_71 : vm_at cX2_learn 71 (.iload 4) 2 73 := ⟨vm_row tbX2_learn 37 rfl, rfl⟩
theorem dX2_learn_73 : vm_at cX2_learn 73 (.iconst (-1)) 1 74 ∧ Int32.ofInt (-1) = (-1 : Int32) := ⟨⟨vm_row tbX2_learn 38 rfl, rfl⟩, z_iconst_m1⟩
theorem dX2_learn_74 : vm_br cX2_learn 74 (.if_icmp .ne 6) 3 77 (6) 80 := ⟨vm_row tbX2_learn 39 rfl, rfl, rfl⟩
theorem dX2_learn_77 : vm_br cX2_learn 77 (.goto 66) 3 80 (66) 143 := ⟨vm_row tbX2_learn 40 rfl, rfl, rfl⟩
theorem dX2_learn_80 : vm_at cX2_learn 80 (.aload_n 0) 1 81 ∧ ((0 : Fin 4) : Nat) = 0 := ⟨⟨vm_row tbX2_learn 41 rfl, rfl⟩, rfl⟩
theorem dX2_learn_81 : vm_at cX2_learn 81 (.getfield 29) 3 84 := ⟨vm_row tbX2_learn 42 rfl, rfl⟩
theorem dX2_learn_84 : vm_at cX2_learn 84 (.getfield 58) 3 87 := ⟨vm_row tbX2_learn 43 rfl, rfl⟩
theorem dX2_learn_87 : vm_at cX2_learn 87 (.aload_n 0) 1 88 ∧ ((0 : Fin 4) : Nat) = 0 := ⟨⟨vm_row tbX2_learn 44 rfl, rfl⟩, rfl⟩
theorem dX2_learn_88 : vm_at cX2_learn 88 (.getfield 15) 3 91 := ⟨vm_row tbX2_learn 45 rfl, rfl⟩
theorem dX2_learn_91 : vm_at cX2_learn 91 (.iload 4) 2 93 := ⟨vm_row tbX2_learn 46 rfl, rfl⟩
theorem dX2_learn_93 : vm_at cX2_learn 93 (.invokestatic 61) 3 96 := ⟨vm_row tbX2_learn 47 rfl, rfl⟩
theorem dX2_learn_96 : vm_at cX2_learn 96 (.invokestatic 61) 3 99 := ⟨vm_row tbX2_learn 48 rfl, rfl⟩
theorem dX2_learn_99 : vm_at cX2_learn 99 (.istore 5) 2 101 := ⟨vm_row tbX2_learn 49 rfl, rfl⟩
theorem dX2_learn_101 : vm_at cX2_learn 101 (.aload_n 0) 1 102 ∧ ((0 : Fin 4) : Nat) = 0 := ⟨⟨vm_row tbX2_learn 50 rfl, rfl⟩, rfl⟩
theorem dX2_learn_102 : vm_at cX2_learn 102 (.getfield 15) 3 105 := ⟨vm_row tbX2_learn 51 rfl, rfl⟩
theorem dX2_learn_105 : vm_at cX2_learn 105 (.iload 4) 2 107 := ⟨vm_row tbX2_learn 52 rfl, rfl⟩
theorem dX2_learn_107 : vm_at cX2_learn 107 (.aload_n 0) 1 108 ∧ ((0 : Fin 4) : Nat) = 0 := ⟨⟨vm_row tbX2_learn 53 rfl, rfl⟩, rfl⟩
theorem dX2_learn_108 : vm_at cX2_learn 108 (.getfield 15) 3 111 := ⟨vm_row tbX2_learn 54 rfl, rfl⟩
theorem dX2_learn_111 : vm_at cX2_learn 111 (.iload 4) 2 113 := ⟨vm_row tbX2_learn 55 rfl, rfl⟩
theorem dX2_learn_113 : vm_at cX2_learn 113 (.invokestatic 61) 3 116 := ⟨vm_row tbX2_learn 56 rfl, rfl⟩
theorem dX2_learn_116 : vm_at cX2_learn 116 (.iconst 1) 1 117 ∧ Int32.ofInt (1) = (1 : Int32) := ⟨⟨vm_row tbX2_learn 57 rfl, rfl⟩, z_iconst_1⟩
theorem dX2_learn_117 : vm_at cX2_learn 117 (.iadd) 1 118 := ⟨vm_row tbX2_learn 58 rfl, rfl⟩
theorem dX2_learn_118 : vm_at cX2_learn 118 (.invokestatic 65) 3 121 := ⟨vm_row tbX2_learn 59 rfl, rfl⟩
theorem dX2_learn_121 : vm_at cX2_learn 121 (.aload_n 0) 1 122 ∧ ((0 : Fin 4) : Nat) = 0 := ⟨⟨vm_row tbX2_learn 60 rfl, rfl⟩, rfl⟩
theorem dX2_learn_122 : vm_at cX2_learn 122 (.aload_n 1) 1 123 ∧ ((1 : Fin 4) : Nat) = 1 := ⟨⟨vm_row tbX2_learn 61 rfl, rfl⟩, rfl⟩
theorem dX2_learn_123 : vm_at cX2_learn 123 (.iload 5) 2 125 := ⟨vm_row tbX2_learn 62 rfl, rfl⟩
theorem dX2_learn_125 : vm_at cX2_learn 125 (.iload 4) 2 127 := ⟨vm_row tbX2_learn 63 rfl, rfl⟩
theorem dX2_learn_127 : vm_at cX2_learn 127 (.invokevirtual 69) 3 130 := ⟨vm_row tbX2_learn 64 rfl, rfl⟩
theorem dX2_learn_130 : vm_at cX2_learn 130 (.aload_n 0) 1 131 ∧ ((0 : Fin 4) : Nat) = 0 := ⟨⟨vm_row tbX2_learn 65 rfl, rfl⟩, rfl⟩
theorem dX2_learn_131 : vm_at cX2_learn 131 (.getfield 22) 3 134 := ⟨vm_row tbX2_learn 66 rfl, rfl⟩
theorem dX2_learn_134 : vm_at cX2_learn 134 (.invokevirtual 49) 3 137 := ⟨vm_row tbX2_learn 67 rfl, rfl⟩
theorem dX2_learn_137 : vm_at cX2_learn 137 (.iinc 3 1) 3 140 ∧ Int32.ofInt (1) = (1 : Int32) := ⟨⟨vm_row tbX2_learn 68 rfl, rfl⟩, z_iconst_1⟩
theorem dX2_learn_140 : vm_br cX2_learn 140 (.goto (-93)) 3 143 (-93) 47 := ⟨vm_row tbX2_learn 69 rfl, rfl, rfl⟩
theorem dX2_learn_143 : vm_at cX2_learn 143 (.aload_n 0) 1 144 ∧ ((0 : Fin 4) : Nat) = 0 := ⟨⟨vm_row tbX2_learn 70 rfl, rfl⟩, rfl⟩
theorem dX2_learn_144 : vm_at cX2_learn 144 (.iconst 1) 1 145 ∧ Int32.ofInt (1) = (1 : Int32) := ⟨⟨vm_row tbX2_learn 71 rfl, rfl⟩, z_iconst_1⟩
theorem dX2_learn_145 : vm_at cX2_learn 145 (.putfield 25) 3 148 := ⟨vm_row tbX2_learn 72 rfl, rfl⟩
theorem dX2_learn_148 : vm_at cX2_learn 148 (.return_) 1 149 := ⟨vm_row tbX2_learn 73 rfl, rfl⟩
def tlX2_cheapestKey : List (Nat × Instr × Nat) := [(0, .iconst (-1), 1), (1, .istore_n 2, 1), (2, .iconst 0, 1), (3, .istore_n 3, 1), (4, .iload_n 3, 1), (5, .aload_n 1, 1), (6, .getfield 73, 3), (9, .if_icmp .ge 76, 3), (12, .aload_n 0, 1), (13, .getfield 15, 3), (16, .iload_n 3, 1), (17, .invokestatic 61, 3), (20, .istore 4, 2), (22, .iload 4, 2), (24, .aload_n 0, 1), (25, .getfield 29, 3), (28, .getfield 76, 3), (31, .if_icmp .ge 48, 3), (34, .aload_n 0, 1), (35, .getfield 29, 3), (38, .getfield 79, 3), (41, .iload 4, 2), (43, .invokestatic 61, 3), (46, .aload_n 1, 1), (47, .getfield 82, 3), (50, .iload_n 3, 1), (51, .invokestatic 61, 3), (54, .iadd, 1), (55, .istore 5, 2), (57, .iload_n 2, 1), (58, .iconst (-1), 1), (59, .if_icmp .eq 12, 3), (62, .iload 5, 2), (64, .aload_n 0, 1), (65, .getfield 22, 3), (68, .if_icmp .ge 11, 3), (71, .iload_n 3, 1), (72, .istore_n 2, 1), (73, .aload_n 0, 1), (74, .iload 5, 2), (76, .putfield 22, 3), (79, .iinc 3 1, 3), (82, .goto (-78), 3), (85, .iload_n 2, 1), (86, .ireturn, 1)]
theorem tbX2_cheapestKey : vm_chk cX2_cheapestKey tlX2_cheapestKey = true := by decide +kernel
theorem dX2_cheapestKey_0 : vm_at cX2_cheapestKey 0 (.iconst (-1)) 1 1 ∧ Int32.ofInt (-1) = (-1 : Int32) := ⟨⟨vm_row tbX2_cheapestKey 0 rfl, rfl⟩, z_iconst_m1⟩
theorem dX2_cheapestKey_1 : vm_at cX2_cheapestKey 1 (.istore_n 2) 1 2 ∧ ((2 : Fin 4) : Nat) = 2 := ⟨⟨vm_row tbX2_cheapestKey 1 rfl, rfl⟩, rfl⟩
theorem dX2_cheapestKey_2 : vm_at cX2_cheapestKey 2 (.iconst 0) 1 3 ∧ Int32.ofInt (0) = (0 : Int32) := ⟨⟨vm_row tbX2_cheapestKey 2 rfl, rfl⟩, z_iconst_0⟩
theorem dX2_cheapestKey_3 : vm_at cX2_cheapestKey 3 (.istore_n 3) 1 4 ∧ ((3 : Fin 4) : Nat) = 3 := ⟨⟨vm_row tbX2_cheapestKey 3 rfl, rfl⟩, rfl⟩
theorem dX2_cheapestKey_4 : vm_at cX2_cheapestKey 4 (.iload_n 3) 1 5 ∧ ((3 : Fin 4) : Nat) = 3 := ⟨⟨vm_row tbX2_cheapestKey 4 rfl, rfl⟩, rfl⟩
theorem dX2_cheapestKey_5 : vm_at cX2_cheapestKey 5 (.aload_n 1) 1 6 ∧ ((1 : Fin 4) : Nat) = 1 := ⟨⟨vm_row tbX2_cheapestKey 5 rfl, rfl⟩, rfl⟩
theorem dX2_cheapestKey_6 : vm_at cX2_cheapestKey 6 (.getfield 73) 3 9 := ⟨vm_row tbX2_cheapestKey 6 rfl, rfl⟩
theorem dX2_cheapestKey_9 : vm_br cX2_cheapestKey 9 (.if_icmp .ge 76) 3 12 (76) 85 := ⟨vm_row tbX2_cheapestKey 7 rfl, rfl, rfl⟩
theorem dX2_cheapestKey_12 : vm_at cX2_cheapestKey 12 (.aload_n 0) 1 13 ∧ ((0 : Fin 4) : Nat) = 0 := ⟨⟨vm_row tbX2_cheapestKey 8 rfl, rfl⟩, rfl⟩
theorem dX2_cheapestKey_13 : vm_at cX2_cheapestKey 13 (.getfield 15) 3 16 := ⟨vm_row tbX2_cheapestKey 9 rfl, rfl⟩
theorem dX2_cheapestKey_16 : vm_at cX2_cheapestKey 16 (.iload_n 3) 1 17 ∧ ((3 : Fin 4) : Nat) = 3 := ⟨⟨vm_row tbX2_cheapestKey 10 rfl, rfl⟩, rfl⟩
theorem dX2_cheapestKey_17 : vm_at cX2_cheapestKey 17 (.invokestatic 61) 3 20 := ⟨vm_row tbX2_cheapestKey 11 rfl, rfl⟩
theorem dX2_cheapestKey_20 : vm_at cX2_cheapestKey 20 (.istore 4) 2 22 := ⟨vm_row tbX2_cheapestKey 12 rfl, rfl⟩
theorem dX2_cheapestKey_22 : vm_at cX2_cheapestKey 22 (.iload 4) 2 24 := ⟨vm_row tbX2_cheapestKey 13 rfl, rfl⟩
theorem dX2_cheapestKey_24 : vm_at cX2_cheapestKey 24 (.aload_n 0) 1 25 ∧ ((0 : Fin 4) : Nat) = 0 := ⟨⟨vm_row tbX2_cheapestKey 14 rfl, rfl⟩, rfl⟩
theorem dX2_cheapestKey_25 : vm_at cX2_cheapestKey 25 (.getfield 29) 3 28 := ⟨vm_row tbX2_cheapestKey 15 rfl, rfl⟩
theorem dX2_cheapestKey_28 : vm_at cX2_cheapestKey 28 (.getfield 76) 3 31 := ⟨vm_row tbX2_cheapestKey 16 rfl, rfl⟩
theorem dX2_cheapestKey_31 : vm_br cX2_cheapestKey 31 (.if_icmp .ge 48) 3 34 (48) 79 := ⟨vm_row tbX2_cheapestKey 17 rfl, rfl, rfl⟩
theorem dX2_cheapestKey_34 : vm_at cX2_cheapestKey 34 (.aload_n 0) 1 35 ∧ ((0 : Fin 4) : Nat) = 0 := ⟨⟨vm_row tbX2_cheapestKey 18 rfl, rfl⟩, rfl⟩
theorem dX2_cheapestKey_35 : vm_at cX2_cheapestKey 35 (.getfield 29) 3 38 := ⟨vm_row tbX2_cheapestKey 19 rfl, rfl⟩
theorem dX2_cheapestKey_38 : vm_at cX2_cheapestKey 38 (.getfield 79) 3 41 := ⟨vm_row tbX2_cheapestKey 20 rfl, rfl⟩
theorem dX2_cheapestKey_41 : vm_at cX2_cheapestKey 41 (.iload 4) 2 43 := ⟨vm_row tbX2_cheapestKey 21 rfl, rfl⟩
theorem dX2_cheapestKey_43 : vm_at cX2_cheapestKey 43 (.invokestatic 61) 3 46 := ⟨vm_row tbX2_cheapestKey 22 rfl, rfl⟩
theorem dX2_cheapestKey_46 : vm_at cX2_cheapestKey 46 (.aload_n 1) 1 47 ∧ ((1 : Fin 4) : Nat) = 1 := ⟨⟨vm_row tbX2_cheapestKey 23 rfl, rfl⟩, rfl⟩
theorem dX2_cheapestKey_47 : vm_at cX2_cheapestKey 47 (.getfield 82) 3 50 := ⟨vm_row tbX2_cheapestKey 24 rfl, rfl⟩
theorem dX2_cheapestKey_50 : vm_at cX2_cheapestKey 50 (.iload_n 3) 1 51 ∧ ((3 : Fin 4) : Nat) = 3 := ⟨⟨vm_row tbX2_cheapestKey 25 rfl, rfl⟩, rfl⟩
theorem dX2_cheapestKey_51 : vm_at cX2_cheapestKey 51 (.invokestatic 61) 3 54 := ⟨vm_row tbX2_cheapestKey 26 rfl, rfl⟩
theorem dX2_cheapestKey_54 : vm_at cX2_cheapestKey 54 (.iadd) 1 55 := ⟨vm_row tbX2_cheapestKey 27 rfl, rfl⟩
theorem dX2_cheapestKey_55 : vm_at cX2_cheapestKey 55 (.istore 5) 2 57 := ⟨vm_row tbX2_cheapestKey 28 rfl, rfl⟩
theorem dX2_cheapestKey_57 : vm_at cX2_cheapestKey 57 (.iload_n 2) 1 58 ∧ ((2 : Fin 4) : Nat) = 2 := ⟨⟨vm_row tbX2_cheapestKey 29 rfl, rfl⟩, rfl⟩
theorem dX2_cheapestKey_58 : vm_at cX2_cheapestKey 58 (.iconst (-1)) 1 59 ∧ Int32.ofInt (-1) = (-1 : Int32) := ⟨⟨vm_row tbX2_cheapestKey 30 rfl, rfl⟩, z_iconst_m1⟩
theorem dX2_cheapestKey_59 : vm_br cX2_cheapestKey 59 (.if_icmp .eq 12) 3 62 (12) 71 := ⟨vm_row tbX2_cheapestKey 31 rfl, rfl, rfl⟩
theorem dX2_cheapestKey_62 : vm_at cX2_cheapestKey 62 (.iload 5) 2 64 := ⟨vm_row tbX2_cheapestKey 32 rfl, rfl⟩
theorem dX2_cheapestKey_64 : vm_at cX2_cheapestKey 64 (.aload_n 0) 1 65 ∧ ((0 : Fin 4) : Nat) = 0 := ⟨⟨vm_row tbX2_cheapestKey 33 rfl, rfl⟩, rfl⟩
theorem dX2_cheapestKey_65 : vm_at cX2_cheapestKey 65 (.getfield 22) 3 68 := ⟨vm_row tbX2_cheapestKey 34 rfl, rfl⟩
theorem dX2_cheapestKey_68 : vm_br cX2_cheapestKey 68 (.if_icmp .ge 11) 3 71 (11) 79 := ⟨vm_row tbX2_cheapestKey 35 rfl, rfl, rfl⟩
theorem dX2_cheapestKey_71 : vm_at cX2_cheapestKey 71 (.iload_n 3) 1 72 ∧ ((3 : Fin 4) : Nat) = 3 := ⟨⟨vm_row tbX2_cheapestKey 36 rfl, rfl⟩, rfl⟩
theorem dX2_cheapestKey_72 : vm_at cX2_cheapestKey 72 (.istore_n 2) 1 73 ∧ ((2 : Fin 4) : Nat) = 2 := ⟨⟨vm_row tbX2_cheapestKey 37 rfl, rfl⟩, rfl⟩
theorem dX2_cheapestKey_73 : vm_at cX2_cheapestKey 73 (.aload_n 0) 1 74 ∧ ((0 : Fin 4) : Nat) = 0 := ⟨⟨vm_row tbX2_cheapestKey 38 rfl, rfl⟩, rfl⟩
theorem dX2_cheapestKey_74 : vm_at cX2_cheapestKey 74 (.iload 5) 2 76 := ⟨vm_row tbX2_cheapestKey 39 rfl, rfl⟩
theorem dX2_cheapestKey_76 : vm_at cX2_cheapestKey 76 (.putfield 22) 3 79 := ⟨vm_row tbX2_cheapestKey 40 rfl, rfl⟩
theorem dX2_cheapestKey_79 : vm_at cX2_cheapestKey 79 (.iinc 3 1) 3 82 ∧ Int32.ofInt (1) = (1 : Int32) := ⟨⟨vm_row tbX2_cheapestKey 41 rfl, rfl⟩, z_iconst_1⟩
theorem dX2_cheapestKey_82 : vm_br cX2_cheapestKey 82 (.goto (-78)) 3 85 (-78) 4 := ⟨vm_row tbX2_cheapestKey 42 rfl, rfl, rfl⟩
theorem dX2_cheapestKey_85 : vm_at cX2_cheapestKey 85 (.iload_n 2) 1 86 ∧ ((2 : Fin 4) : Nat) = 2 := ⟨⟨vm_row tbX2_cheapestKey 43 rfl, rfl⟩, rfl⟩
theorem dX2_cheapestKey_86 : vm_at cX2_cheapestKey 86 (.ireturn) 1 87 := ⟨vm_row tbX2_cheapestKey 44 rfl, rfl⟩
def tlX2_meet : List (Nat × Instr × Nat) := [(0, .aload_n 0, 1), (1, .getfield 29, 3), (4, .iload_n 1, 1), (5, .invokevirtual 85, 3), (8, .ifCond .eq 49, 3), (11, .aload_n 0, 1), (12, .getfield 29, 3), (15, .iload_n 1, 1), (16, .iload_n 2, 1), (17, .invokevirtual 89, 3), (20, .aload_n 0, 1), (21, .getfield 9, 3), (24, .iload_n 1, 1), (25, .invokestatic 92, 3), (28, .invokestatic 61, 3), (31, .iconst (-1), 1), (32, .if_icmp .ne 25, 3), (35, .aload_n 0, 1), (36, .getfield 9, 3), (39, .iload_n 1, 1), (40, .invokestatic 92, 3), (43, .iload_n 2, 1), (44, .invokestatic 65, 3), (47, .aload_n 0, 1), (48, .dup, 1), (49, .getfield 18, 3), (52, .iconst 1, 1), (53, .isub, 1), (54, .putfield 18, 3), (57, .return_, 1)]
theorem tbX2_meet : vm_chk cX2_meet tlX2_meet = true := by decide +kernel
theorem dX2_meet_0 : vm_at cX2_meet 0 (.aload_n 0) 1 1 ∧ ((0 : Fin 4) : Nat) = 0 := ⟨⟨vm_row tbX2_meet 0 rfl, rfl⟩, rfl⟩
theorem dX2_meet_1 : vm_at cX2_meet 1 (.getfield 29) 3 4 := ⟨vm_row tbX2_meet 1 rfl, rfl⟩
theorem dX2_meet_4 : vm_at cX2_meet 4 (.iload_n 1) 1 5 ∧ ((1 : Fin 4) : Nat) = 1 := ⟨⟨vm_row tbX2_meet 2 rfl, rfl⟩, rfl⟩
theorem dX2_meet_5 : vm_at cX2_meet 5 (.invokevirtual 85) 3 8 := ⟨vm_row tbX2_meet 3 rfl, rfl⟩
theorem dX2_meet_8 : vm_br cX2_meet 8 (.ifCond .eq 49) 3 11 (49) 57 := ⟨vm_row tbX2_meet 4 rfl, rfl, rfl⟩
theorem dX2_meet_11 : vm_at cX2_meet 11 (.aload_n 0) 1 12 ∧ ((0 : Fin 4) : Nat) = 0 := ⟨⟨vm_row tbX2_meet 5 rfl, rfl⟩, rfl⟩
theorem dX2_meet_12 : vm_at cX2_meet 12 (.getfield 29) 3 15 := ⟨vm_row tbX2_meet 6 rfl, rfl⟩
theorem dX2_meet_15 : vm_at cX2_meet 15 (.iload_n 1) 1 16 ∧ ((1 : Fin 4) : Nat) = 1 := ⟨⟨vm_row tbX2_meet 7 rfl, rfl⟩, rfl⟩
theorem dX2_meet_16 : vm_at cX2_meet 16 (.iload_n 2) 1 17 ∧ ((2 : Fin 4) : Nat) = 2 := ⟨⟨vm_row tbX2_meet 8 rfl, rfl⟩, rfl⟩
theorem dX2_meet_17 : vm_at cX2_meet 17 (.invokevirtual 89) 3 20 := ⟨vm_row tbX2_meet 9 rfl, rfl⟩
theorem dX2_meet_20 : vm_at cX2_meet 20 (.aload_n 0) 1 21 ∧ ((0 : Fin 4) : Nat) = 0 := ⟨⟨vm_row tbX2_meet 10 rfl, rfl⟩, rfl⟩
theorem dX2_meet_21 : vm_at cX2_meet 21 (.getfield 9) 3 24 := ⟨vm_row tbX2_meet 11 rfl, rfl⟩
theorem dX2_meet_24 : vm_at cX2_meet 24 (.iload_n 1) 1 25 ∧ ((1 : Fin 4) : Nat) = 1 := ⟨⟨vm_row tbX2_meet 12 rfl, rfl⟩, rfl⟩
theorem dX2_meet_25 : vm_at cX2_meet 25 (.invokestatic 92) 3 28 := ⟨vm_row tbX2_meet 13 rfl, rfl⟩
theorem dX2_meet_28 : vm_at cX2_meet 28 (.invokestatic 61) 3 31 := ⟨vm_row tbX2_meet 14 rfl, rfl⟩
theorem dX2_meet_31 : vm_at cX2_meet 31 (.iconst (-1)) 1 32 ∧ Int32.ofInt (-1) = (-1 : Int32) := ⟨⟨vm_row tbX2_meet 15 rfl, rfl⟩, z_iconst_m1⟩
theorem dX2_meet_32 : vm_br cX2_meet 32 (.if_icmp .ne 25) 3 35 (25) 57 := ⟨vm_row tbX2_meet 16 rfl, rfl, rfl⟩
theorem dX2_meet_35 : vm_at cX2_meet 35 (.aload_n 0) 1 36 ∧ ((0 : Fin 4) : Nat) = 0 := ⟨⟨vm_row tbX2_meet 17 rfl, rfl⟩, rfl⟩
theorem dX2_meet_36 : vm_at cX2_meet 36 (.getfield 9) 3 39 := ⟨vm_row tbX2_meet 18 rfl, rfl⟩
theorem dX2_meet_39 : vm_at cX2_meet 39 (.iload_n 1) 1 40 ∧ ((1 : Fin 4) : Nat) = 1 := ⟨⟨vm_row tbX2_meet 19 rfl, rfl⟩, rfl⟩
theorem dX2_meet_40 : vm_at cX2_meet 40 (.invokestatic 92) 3 43 := ⟨vm_row tbX2_meet 20 rfl, rfl⟩
theorem dX2_meet_43 : vm_at cX2_meet 43 (.iload_n 2) 1 44 ∧ ((2 : Fin 4) : Nat) = 2 := ⟨⟨vm_row tbX2_meet 21 rfl, rfl⟩, rfl⟩
theorem dX2_meet_44 : vm_at cX2_meet 44 (.invokestatic 65) 3 47 := ⟨vm_row tbX2_meet 22 rfl, rfl⟩
theorem dX2_meet_47 : vm_at cX2_meet 47 (.aload_n 0) 1 48 ∧ ((0 : Fin 4) : Nat) = 0 := ⟨⟨vm_row tbX2_meet 23 rfl, rfl⟩, rfl⟩
theorem dX2_meet_48 : vm_at cX2_meet 48 (.dup) 1 49 := ⟨vm_row tbX2_meet 24 rfl, rfl⟩
theorem dX2_meet_49 : vm_at cX2_meet 49 (.getfield 18) 3 52 := ⟨vm_row tbX2_meet 25 rfl, rfl⟩
theorem dX2_meet_52 : vm_at cX2_meet 52 (.iconst 1) 1 53 ∧ Int32.ofInt (1) = (1 : Int32) := ⟨⟨vm_row tbX2_meet 26 rfl, rfl⟩, z_iconst_1⟩
theorem dX2_meet_53 : vm_at cX2_meet 53 (.isub) 1 54 := ⟨vm_row tbX2_meet 27 rfl, rfl⟩
theorem dX2_meet_54 : vm_at cX2_meet 54 (.putfield 18) 3 57 := ⟨vm_row tbX2_meet 28 rfl, rfl⟩
theorem dX2_meet_57 : vm_at cX2_meet 57 (.return_) 1 58 := ⟨vm_row tbX2_meet 29 rfl, rfl⟩
def tlX3_play : List (Nat × Instr × Nat) := [(0, .aload_n 0, 1), (1, .iconst 0, 1), (2, .putfield 9, 3), (5, .aload_n 0, 1), (6, .iconst (-1), 1), (7, .putfield 15, 3), (10, .iload 4, 2), (12, .ifCond .gt 4, 3), (15, .return_, 1), (16, .iconst 0, 1), (17, .istore 5, 2), (19, .iload 5, 2), (21, .aload_n 1, 1), (22, .getfield 18, 3), (25, .if_icmp .ge 50, 3), (28, .aload_n 1, 1), (29, .iload_n 2, 1), (30, .iload_n 3, 1), (31, .iload 4, 2), (33, .iload 5, 2), (35, .invokestatic 23, 3), (38, .istore 6, 2), (40, .aload_n 0, 1), (41, .getfield 15, 3), (44, .iconst (-1), 1), (45, .if_icmp .eq 12, 3), (48, .iload 6, 2), (50, .aload_n 0, 1), (51, .getfield 9, 3), (54, .if_icmp .le 15, 3), (57, .aload_n 0, 1), (58, .iload 5, 2), (60, .putfield 15, 3), (63, .aload_n 0, 1), (64, .iload 6, 2), (66, .putfield 9, 3), (69, .iinc 5 1, 3), (72, .goto (-53), 3), (75, .return_, 1)]
theorem tbX3_play : vm_chk cX3_play tlX3_play = true := by decide +kernel
theorem dX3_play_0 : vm_at cX3_play 0 (.aload_n 0) 1 1 ∧ ((0 : Fin 4) : Nat) = 0 := ⟨⟨vm_row tbX3_play 0 rfl, rfl⟩, rfl⟩
theorem dX3_play_1 : vm_at cX3_play 1 (.iconst 0) 1 2 ∧ Int32.ofInt (0) = (0 : Int32) := ⟨⟨vm_row tbX3_play 1 rfl, rfl⟩, z_iconst_0⟩
theorem dX3_play_2 : vm_at cX3_play 2 (.putfield 9) 3 5 := ⟨vm_row tbX3_play 2 rfl, rfl⟩
theorem dX3_play_5 : vm_at cX3_play 5 (.aload_n 0) 1 6 ∧ ((0 : Fin 4) : Nat) = 0 := ⟨⟨vm_row tbX3_play 3 rfl, rfl⟩, rfl⟩
theorem dX3_play_6 : vm_at cX3_play 6 (.iconst (-1)) 1 7 ∧ Int32.ofInt (-1) = (-1 : Int32) := ⟨⟨vm_row tbX3_play 4 rfl, rfl⟩, z_iconst_m1⟩
theorem dX3_play_7 : vm_at cX3_play 7 (.putfield 15) 3 10 := ⟨vm_row tbX3_play 5 rfl, rfl⟩
theorem dX3_play_10 : vm_at cX3_play 10 (.iload 4) 2 12 := ⟨vm_row tbX3_play 6 rfl, rfl⟩
theorem dX3_play_12 : vm_br cX3_play 12 (.ifCond .gt 4) 3 15 (4) 16 := ⟨vm_row tbX3_play 7 rfl, rfl, rfl⟩
theorem dX3_play_15 : vm_at cX3_play 15 (.return_) 1 16 := ⟨vm_row tbX3_play 8 rfl, rfl⟩
theorem dX3_play_16 : vm_at cX3_play 16 (.iconst 0) 1 17 ∧ Int32.ofInt (0) = (0 : Int32) := ⟨⟨vm_row tbX3_play 9 rfl, rfl⟩, z_iconst_0⟩
theorem dX3_play_17 : vm_at cX3_play 17 (.istore 5) 2 19 := ⟨vm_row tbX3_play 10 rfl, rfl⟩
theorem dX3_play_19 : vm_at cX3_play 19 (.iload 5) 2 21 := ⟨vm_row tbX3_play 11 rfl, rfl⟩
theorem dX3_play_21 : vm_at cX3_play 21 (.aload_n 1) 1 22 ∧ ((1 : Fin 4) : Nat) = 1 := ⟨⟨vm_row tbX3_play 12 rfl, rfl⟩, rfl⟩
theorem dX3_play_22 : vm_at cX3_play 22 (.getfield 18) 3 25 := ⟨vm_row tbX3_play 13 rfl, rfl⟩
theorem dX3_play_25 : vm_br cX3_play 25 (.if_icmp .ge 50) 3 28 (50) 75 := ⟨vm_row tbX3_play 14 rfl, rfl, rfl⟩
theorem dX3_play_28 : vm_at cX3_play 28 (.aload_n 1) 1 29 ∧ ((1 : Fin 4) : Nat) = 1 := ⟨⟨vm_row tbX3_play 15 rfl, rfl⟩, rfl⟩
theorem dX3_play_29 : vm_at cX3_play 29 (.iload_n 2) 1 30 ∧ ((2 : Fin 4) : Nat) = 2 := ⟨⟨vm_row tbX3_play 16 rfl, rfl⟩, rfl⟩
theorem dX3_play_30 : vm_at cX3_play 30 (.iload_n 3) 1 31 ∧ ((3 : Fin 4) : Nat) = 3 := ⟨⟨vm_row tbX3_play 17 rfl, rfl⟩, rfl⟩
theorem dX3_play_31 : vm_at cX3_play 31 (.iload 4) 2 33 := ⟨vm_row tbX3_play 18 rfl, rfl⟩
theorem dX3_play_33 : vm_at cX3_play 33 (.iload 5) 2 35 := ⟨vm_row tbX3_play 19 rfl, rfl⟩
theorem dX3_play_35 : vm_at cX3_play 35 (.invokestatic 23) 3 38 := ⟨vm_row tbX3_play 20 rfl, rfl⟩
theorem dX3_play_38 : vm_at cX3_play 38 (.istore 6) 2 40 := ⟨vm_row tbX3_play 21 rfl, rfl⟩
theorem dX3_play_40 : vm_at cX3_play 40 (.aload_n 0) 1 41 ∧ ((0 : Fin 4) : Nat) = 0 := ⟨⟨vm_row tbX3_play 22 rfl, rfl⟩, rfl⟩
theorem dX3_play_41 : vm_at cX3_play 41 (.getfield 15) 3 44 := ⟨vm_row tbX3_play 23 rfl, rfl⟩
theorem dX3_play_44 : vm_at cX3_play 44 (.iconst (-1)) 1 45 ∧ Int32.ofInt (-1) = (-1 : Int32) := ⟨⟨vm_row tbX3_play 24 rfl, rfl⟩, z_iconst_m1⟩
theorem dX3_play_45 : vm_br cX3_play 45 (.if_icmp .eq 12) 3 48 (12) 57 := ⟨vm_row tbX3_play 25 rfl, rfl, rfl⟩
theorem dX3_play_48 : vm_at cX3_play 48 (.iload 6) 2 50 := ⟨vm_row tbX3_play 26 rfl, rfl⟩
theorem dX3_play_50 : vm_at cX3_play 50 (.aload_n 0) 1 51 ∧ ((0 : Fin 4) : Nat) = 0 := ⟨⟨vm_row tbX3_play 27 rfl, rfl⟩, rfl⟩
theorem dX3_play_51 : vm_at cX3_play 51 (.getfield 9) 3 54 := ⟨vm_row tbX3_play 28 rfl, rfl⟩
theorem dX3_play_54 : vm_br cX3_play 54 (.if_icmp .le 15) 3 57 (15) 69 := ⟨vm_row tbX3_play 29 rfl, rfl, rfl⟩
theorem dX3_play_57 : vm_at cX3_play 57 (.aload_n 0) 1 58 ∧ ((0 : Fin 4) : Nat) = 0 := ⟨⟨vm_row tbX3_play 30 rfl, rfl⟩, rfl⟩
theorem dX3_play_58 : vm_at cX3_play 58 (.iload 5) 2 60 := ⟨vm_row tbX3_play 31 rfl, rfl⟩
theorem dX3_play_60 : vm_at cX3_play 60 (.putfield 15) 3 63 := ⟨vm_row tbX3_play 32 rfl, rfl⟩
theorem dX3_play_63 : vm_at cX3_play 63 (.aload_n 0) 1 64 ∧ ((0 : Fin 4) : Nat) = 0 := ⟨⟨vm_row tbX3_play 33 rfl, rfl⟩, rfl⟩
theorem dX3_play_64 : vm_at cX3_play 64 (.iload 6) 2 66 := ⟨vm_row tbX3_play 34 rfl, rfl⟩
theorem dX3_play_66 : vm_at cX3_play 66 (.putfield 9) 3 69 := ⟨vm_row tbX3_play 35 rfl, rfl⟩
theorem dX3_play_69 : vm_at cX3_play 69 (.iinc 5 1) 3 72 ∧ Int32.ofInt (1) = (1 : Int32) := ⟨⟨vm_row tbX3_play 36 rfl, rfl⟩, z_iconst_1⟩
theorem dX3_play_72 : vm_br cX3_play 72 (.goto (-53)) 3 75 (-53) 19 := ⟨vm_row tbX3_play 37 rfl, rfl, rfl⟩
theorem dX3_play_75 : vm_at cX3_play 75 (.return_) 1 76 := ⟨vm_row tbX3_play 38 rfl, rfl⟩
def tlX3_worth : List (Nat × Instr × Nat) := [(0, .iload_n 3, 1), (1, .ifCond .le 10, 3), (4, .aload_n 0, 1), (5, .getfield 18, 3), (8, .ifCond .ne 5, 3), (11, .iconst 0, 1), (12, .ireturn, 1), (13, .iconst (-1), 1), (14, .istore 4, 2), (16, .iconst 0, 1), (17, .istore 5, 2), (19, .iload 5, 2), (21, .aload_n 0, 1), (22, .getfield 18, 3), (25, .if_icmp .ge 31, 3), (28, .iload 4, 2), (30, .iconst 1, 1), (31, .if_icmp .ge 25, 3), (34, .iload 4, 2), (36, .aload_n 0, 1), (37, .iload_n 1, 1), (38, .iload_n 2, 1), (39, .iload_n 3, 1), (40, .iload 5, 2), (42, .invokestatic 23, 3), (45, .invokestatic 27, 3), (48, .istore 4, 2), (50, .iinc 5 1, 3), (53, .goto (-34), 3), (56, .iload 4, 2), (58, .ireturn, 1)]
theorem tbX3_worth : vm_chk cX3_worth tlX3_worth = true := by decide +kernel
theorem dX3_worth_0 : vm_at cX3_worth 0 (.iload_n 3) 1 1 ∧ ((3 : Fin 4) : Nat) = 3 := ⟨⟨vm_row tbX3_worth 0 rfl, rfl⟩, rfl⟩
theorem dX3_worth_1 : vm_br cX3_worth 1 (.ifCond .le 10) 3 4 (10) 11 := ⟨vm_row tbX3_worth 1 rfl, rfl, rfl⟩
theorem dX3_worth_4 : vm_at cX3_worth 4 (.aload_n 0) 1 5 ∧ ((0 : Fin 4) : Nat) = 0 := ⟨⟨vm_row tbX3_worth 2 rfl, rfl⟩, rfl⟩
theorem dX3_worth_5 : vm_at cX3_worth 5 (.getfield 18) 3 8 := ⟨vm_row tbX3_worth 3 rfl, rfl⟩
theorem dX3_worth_8 : vm_br cX3_worth 8 (.ifCond .ne 5) 3 11 (5) 13 := ⟨vm_row tbX3_worth 4 rfl, rfl, rfl⟩
theorem dX3_worth_11 : vm_at cX3_worth 11 (.iconst 0) 1 12 ∧ Int32.ofInt (0) = (0 : Int32) := ⟨⟨vm_row tbX3_worth 5 rfl, rfl⟩, z_iconst_0⟩
theorem dX3_worth_12 : vm_at cX3_worth 12 (.ireturn) 1 13 := ⟨vm_row tbX3_worth 6 rfl, rfl⟩
theorem dX3_worth_13 : vm_at cX3_worth 13 (.iconst (-1)) 1 14 ∧ Int32.ofInt (-1) = (-1 : Int32) := ⟨⟨vm_row tbX3_worth 7 rfl, rfl⟩, z_iconst_m1⟩
theorem dX3_worth_14 : vm_at cX3_worth 14 (.istore 4) 2 16 := ⟨vm_row tbX3_worth 8 rfl, rfl⟩
theorem dX3_worth_16 : vm_at cX3_worth 16 (.iconst 0) 1 17 ∧ Int32.ofInt (0) = (0 : Int32) := ⟨⟨vm_row tbX3_worth 9 rfl, rfl⟩, z_iconst_0⟩
theorem dX3_worth_17 : vm_at cX3_worth 17 (.istore 5) 2 19 := ⟨vm_row tbX3_worth 10 rfl, rfl⟩
theorem dX3_worth_19 : vm_at cX3_worth 19 (.iload 5) 2 21 := ⟨vm_row tbX3_worth 11 rfl, rfl⟩
theorem dX3_worth_21 : vm_at cX3_worth 21 (.aload_n 0) 1 22 ∧ ((0 : Fin 4) : Nat) = 0 := ⟨⟨vm_row tbX3_worth 12 rfl, rfl⟩, rfl⟩
theorem dX3_worth_22 : vm_at cX3_worth 22 (.getfield 18) 3 25 := ⟨vm_row tbX3_worth 13 rfl, rfl⟩
theorem dX3_worth_25 : vm_br cX3_worth 25 (.if_icmp .ge 31) 3 28 (31) 56 := ⟨vm_row tbX3_worth 14 rfl, rfl, rfl⟩
theorem dX3_worth_28 : vm_at cX3_worth 28 (.iload 4) 2 30 := ⟨vm_row tbX3_worth 15 rfl, rfl⟩
theorem dX3_worth_30 : vm_at cX3_worth 30 (.iconst 1) 1 31 ∧ Int32.ofInt (1) = (1 : Int32) := ⟨⟨vm_row tbX3_worth 16 rfl, rfl⟩, z_iconst_1⟩
theorem dX3_worth_31 : vm_br cX3_worth 31 (.if_icmp .ge 25) 3 34 (25) 56 := ⟨vm_row tbX3_worth 17 rfl, rfl, rfl⟩
theorem dX3_worth_34 : vm_at cX3_worth 34 (.iload 4) 2 36 := ⟨vm_row tbX3_worth 18 rfl, rfl⟩
theorem dX3_worth_36 : vm_at cX3_worth 36 (.aload_n 0) 1 37 ∧ ((0 : Fin 4) : Nat) = 0 := ⟨⟨vm_row tbX3_worth 19 rfl, rfl⟩, rfl⟩
theorem dX3_worth_37 : vm_at cX3_worth 37 (.iload_n 1) 1 38 ∧ ((1 : Fin 4) : Nat) = 1 := ⟨⟨vm_row tbX3_worth 20 rfl, rfl⟩, rfl⟩
theorem dX3_worth_38 : vm_at cX3_worth 38 (.iload_n 2) 1 39 ∧ ((2 : Fin 4) : Nat) = 2 := ⟨⟨vm_row tbX3_worth 21 rfl, rfl⟩, rfl⟩
theorem dX3_worth_39 : vm_at cX3_worth 39 (.iload_n 3) 1 40 ∧ ((3 : Fin 4) : Nat) = 3 := ⟨⟨vm_row tbX3_worth 22 rfl, rfl⟩, rfl⟩
theorem dX3_worth_40 : vm_at cX3_worth 40 (.iload 5) 2 42 := ⟨vm_row tbX3_worth 23 rfl, rfl⟩
theorem dX3_worth_42 : vm_at cX3_worth 42 (.invokestatic 23) 3 45 := ⟨vm_row tbX3_worth 24 rfl, rfl⟩
theorem dX3_worth_45 : vm_at cX3_worth 45 (.invokestatic 27) 3 48 := ⟨vm_row tbX3_worth 25 rfl, rfl⟩
theorem dX3_worth_48 : vm_at cX3_worth 48 (.istore 4) 2 50 := ⟨vm_row tbX3_worth 26 rfl, rfl⟩
theorem dX3_worth_50 : vm_at cX3_worth 50 (.iinc 5 1) 3 53 ∧ Int32.ofInt (1) = (1 : Int32) := ⟨⟨vm_row tbX3_worth 27 rfl, rfl⟩, z_iconst_1⟩
theorem dX3_worth_53 : vm_br cX3_worth 53 (.goto (-34)) 3 56 (-34) 19 := ⟨vm_row tbX3_worth 28 rfl, rfl, rfl⟩
theorem dX3_worth_56 : vm_at cX3_worth 56 (.iload 4) 2 58 := ⟨vm_row tbX3_worth 29 rfl, rfl⟩
theorem dX3_worth_58 : vm_at cX3_worth 58 (.ireturn) 1 59 := ⟨vm_row tbX3_worth 30 rfl, rfl⟩
def tlX3_worthOfKey : List (Nat × Instr × Nat) := [(0, .aload_n 0, 1), (1, .iload_n 1, 1), (2, .iload 4, 2), (4, .invokevirtual 33, 3), (7, .istore 5, 2), (9, .iload 5, 2), (11, .invokestatic 36, 3), (14, .iload_n 2, 1), (15, .if_icmp .ne 7, 3), (18, .iconst 1, 1), (19, .goto 14, 3), (22, .aload_n 0, 1), (23, .iload 5, 2), (25, .iload_n 2, 1), (26, .iload_n 3, 1), (27, .iconst 1, 1), (28, .isub, 1), (29, .invokestatic 40, 3), (32, .ineg, 1), (33, .ireturn, 1)]
theorem tbX3_worthOfKey : vm_chk cX3_worthOfKey tlX3_worthOfKey = true := by decide +kernel
theorem dX3_worthOfKey_0 : vm_at cX3_worthOfKey 0 (.aload_n 0) 1 1 ∧ ((0 : Fin 4) : Nat) = 0 := ⟨⟨vm_row tbX3_worthOfKey 0 rfl, rfl⟩, rfl⟩
theorem dX3_worthOfKey_1 : vm_at cX3_worthOfKey 1 (.iload_n 1) 1 2 ∧ ((1 : Fin 4) : Nat) = 1 := ⟨⟨vm_row tbX3_worthOfKey 1 rfl, rfl⟩, rfl⟩
theorem dX3_worthOfKey_2 : vm_at cX3_worthOfKey 2 (.iload 4) 2 4 := ⟨vm_row tbX3_worthOfKey 2 rfl, rfl⟩
theorem dX3_worthOfKey_4 : vm_at cX3_worthOfKey 4 (.invokevirtual 33) 3 7 := ⟨vm_row tbX3_worthOfKey 3 rfl, rfl⟩
theorem dX3_worthOfKey_7 : vm_at cX3_worthOfKey 7 (.istore 5) 2 9 := ⟨vm_row tbX3_worthOfKey 4 rfl, rfl⟩
theorem dX3_worthOfKey_9 : vm_at cX3_worthOfKey 9 (.iload 5) 2 11 := ⟨vm_row tbX3_worthOfKey 5 rfl, rfl⟩
theorem dX3_worthOfKey_11 : vm_at cX3_worthOfKey 11 (.invokestatic 36) 3 14 := ⟨vm_row tbX3_worthOfKey 6 rfl, rfl⟩
theorem dX3_worthOfKey_14 : vm_at cX3_worthOfKey 14 (.iload_n 2) 1 15 ∧ ((2 : Fin 4) : Nat) = 2 := ⟨⟨vm_row tbX3_worthOfKey 7 rfl, rfl⟩, rfl⟩
theorem dX3_worthOfKey_15 : vm_br cX3_worthOfKey 15 (.if_icmp .ne 7) 3 18 (7) 22 := ⟨vm_row tbX3_worthOfKey 8 rfl, rfl, rfl⟩
theorem dX3_worthOfKey_18 : vm_at cX3_worthOfKey 18 (.iconst 1) 1 19 ∧ Int32.ofInt (1) = (1 : Int32) := ⟨⟨vm_row tbX3_worthOfKey 9 rfl, rfl⟩, z_iconst_1⟩
theorem dX3_worthOfKey_19 : vm_br cX3_worthOfKey 19 (.goto 14) 3 22 (14) 33 := ⟨vm_row tbX3_worthOfKey 10 rfl, rfl, rfl⟩
theorem dX3_worthOfKey_22 : vm_at cX3_worthOfKey 22 (.aload_n 0) 1 23 ∧ ((0 : Fin 4) : Nat) = 0 := ⟨⟨vm_row tbX3_worthOfKey 11 rfl, rfl⟩, rfl⟩
theorem dX3_worthOfKey_23 : vm_at cX3_worthOfKey 23 (.iload 5) 2 25 := ⟨vm_row tbX3_worthOfKey 12 rfl, rfl⟩
theorem dX3_worthOfKey_25 : vm_at cX3_worthOfKey 25 (.iload_n 2) 1 26 ∧ ((2 : Fin 4) : Nat) = 2 := ⟨⟨vm_row tbX3_worthOfKey 13 rfl, rfl⟩, rfl⟩
theorem dX3_worthOfKey_26 : vm_at cX3_worthOfKey 26 (.iload_n 3) 1 27 ∧ ((3 : Fin 4) : Nat) = 3 := ⟨⟨vm_row tbX3_worthOfKey 14 rfl, rfl⟩, rfl⟩
theorem dX3_worthOfKey_27 : vm_at cX3_worthOfKey 27 (.iconst 1) 1 28 ∧ Int32.ofInt (1) = (1 : Int32) := ⟨⟨vm_row tbX3_worthOfKey 15 rfl, rfl⟩, z_iconst_1⟩
theorem dX3_worthOfKey_28 : vm_at cX3_worthOfKey 28 (.isub) 1 29 := ⟨vm_row tbX3_worthOfKey 16 rfl, rfl⟩
theorem dX3_worthOfKey_29 : vm_at cX3_worthOfKey 29 (.invokestatic 40) 3 32 := ⟨vm_row tbX3_worthOfKey 17 rfl, rfl⟩
theorem dX3_worthOfKey_32 : vm_at cX3_worthOfKey 32 (.ineg) 1 33 := ⟨vm_row tbX3_worthOfKey 18 rfl, rfl⟩
theorem dX3_worthOfKey_33 : vm_at cX3_worthOfKey 33 (.ireturn) 1 34 := ⟨vm_row tbX3_worthOfKey 19 rfl, rfl⟩
def tlX4_count : List (Nat × Instr × Nat) := [(0, .aload_n 0, 1), (1, .iconst 0, 1), (2, .putfield 9, 3), (5, .aload_n 0, 1), (6, .sipush 255, 3), (9, .putfield 15, 3), (12, .aload_n 0, 1), (13, .getfield 18, 3), (16, .invokevirtual 22, 3), (19, .aload_n 0, 1), (20, .getfield 18, 3), (23, .getfield 27, 3), (26, .astore 5, 2), (28, .aload_n 0, 1), (29, .getfield 18, 3), (32, .getfield 31, 3), (35, .astore 6, 2), (37, .aload 5, 2), (39, .iconst 0, 1), (40, .invokestatic 34, 3), (43, .aload 5, 2), (45, .aload_n 1, 1), (46, .iload_n 2, 1), (47, .invokevirtual 40, 3), (50, .sipush 256, 3), (53, .invokestatic 46, 3), (56, .iconst 1, 1), (57, .istore 7, 2), (59, .iload 7, 2), (61, .iload_n 3, 1), (62, .if_icmp .ge 36, 3), (65, .aload 6, 2), (67, .iconst 0, 1), (68, .invokestatic 34, 3), (71, .aload_n 0, 1), (72, .aload_n 1, 1), (73, .aload 5, 2), (75, .aload 6, 2), (77, .invokevirtual 50, 3), (80, .aload 5, 2), (82, .astore 8, 2), (84, .aload 6, 2), (86, .astore 5, 2), (88, .aload 8, 2), (90, .astore 6, 2), (92, .iinc 7 1, 3), (95, .goto (-36), 3), (98, .iload_n 3, 1), (99, .ifCond .ne 29, 3), (102, .aload_n 0, 1), (103, .iload_n 2, 1), (104, .invokestatic 54, 3), (107, .iload 4, 2), (109, .if_icmp .ne 7, 3), (112, .iconst 1, 1), (113, .goto 4, 3), (116, .iconst 0, 1), (117, .putfield 9, 3), (120, .aload_n 0, 1), (121, .iconst 0, 1), (122, .putfield 15, 3), (125, .goto 12, 3), (128, .aload_n 0, 1), (129, .aload_n 1, 1), (130, .aload 5, 2), (132, .iload 4, 2), (134, .invokevirtual 57, 3), (137, .return_, 1)]
theorem tbX4_count : vm_chk cX4_count tlX4_count = true := by decide +kernel
theorem dX4_count_0 : vm_at cX4_count 0 (.aload_n 0) 1 1 ∧ ((0 : Fin 4) : Nat) = 0 := ⟨⟨vm_row tbX4_count 0 rfl, rfl⟩, rfl⟩
theorem dX4_count_1 : vm_at cX4_count 1 (.iconst 0) 1 2 ∧ Int32.ofInt (0) = (0 : Int32) := ⟨⟨vm_row tbX4_count 1 rfl, rfl⟩, z_iconst_0⟩
theorem dX4_count_2 : vm_at cX4_count 2 (.putfield 9) 3 5 := ⟨vm_row tbX4_count 2 rfl, rfl⟩
theorem dX4_count_5 : vm_at cX4_count 5 (.aload_n 0) 1 6 ∧ ((0 : Fin 4) : Nat) = 0 := ⟨⟨vm_row tbX4_count 3 rfl, rfl⟩, rfl⟩
theorem dX4_count_6 : vm_at cX4_count 6 (.sipush 255) 3 9 ∧ (Int16.ofInt (255)).toInt32 = (255 : Int32) := ⟨⟨vm_row tbX4_count 4 rfl, rfl⟩, z_sipush_255⟩
theorem dX4_count_9 : vm_at cX4_count 9 (.putfield 15) 3 12 := ⟨vm_row tbX4_count 5 rfl, rfl⟩
theorem dX4_count_12 : vm_at cX4_count 12 (.aload_n 0) 1 13 ∧ ((0 : Fin 4) : Nat) = 0 := ⟨⟨vm_row tbX4_count 6 rfl, rfl⟩, rfl⟩
theorem dX4_count_13 : vm_at cX4_count 13 (.getfield 18) 3 16 := ⟨vm_row tbX4_count 7 rfl, rfl⟩
theorem dX4_count_16 : vm_at cX4_count 16 (.invokevirtual 22) 3 19 := ⟨vm_row tbX4_count 8 rfl, rfl⟩
theorem dX4_count_19 : vm_at cX4_count 19 (.aload_n 0) 1 20 ∧ ((0 : Fin 4) : Nat) = 0 := ⟨⟨vm_row tbX4_count 9 rfl, rfl⟩, rfl⟩
theorem dX4_count_20 : vm_at cX4_count 20 (.getfield 18) 3 23 := ⟨vm_row tbX4_count 10 rfl, rfl⟩
theorem dX4_count_23 : vm_at cX4_count 23 (.getfield 27) 3 26 := ⟨vm_row tbX4_count 11 rfl, rfl⟩
theorem dX4_count_26 : vm_at cX4_count 26 (.astore 5) 2 28 := ⟨vm_row tbX4_count 12 rfl, rfl⟩
theorem dX4_count_28 : vm_at cX4_count 28 (.aload_n 0) 1 29 ∧ ((0 : Fin 4) : Nat) = 0 := ⟨⟨vm_row tbX4_count 13 rfl, rfl⟩, rfl⟩
theorem dX4_count_29 : vm_at cX4_count 29 (.getfield 18) 3 32 := ⟨vm_row tbX4_count 14 rfl, rfl⟩
theorem dX4_count_32 : vm_at cX4_count 32 (.getfield 31) 3 35 := ⟨vm_row tbX4_count 15 rfl, rfl⟩
theorem dX4_count_35 : vm_at cX4_count 35 (.astore 6) 2 37 := ⟨vm_row tbX4_count 16 rfl, rfl⟩
theorem dX4_count_37 : vm_at cX4_count 37 (.aload 5) 2 39 := ⟨vm_row tbX4_count 17 rfl, rfl⟩
theorem dX4_count_39 : vm_at cX4_count 39 (.iconst 0) 1 40 ∧ Int32.ofInt (0) = (0 : Int32) := ⟨⟨vm_row tbX4_count 18 rfl, rfl⟩, z_iconst_0⟩
theorem dX4_count_40 : vm_at cX4_count 40 (.invokestatic 34) 3 43 := ⟨vm_row tbX4_count 19 rfl, rfl⟩
theorem dX4_count_43 : vm_at cX4_count 43 (.aload 5) 2 45 := ⟨vm_row tbX4_count 20 rfl, rfl⟩
theorem dX4_count_45 : vm_at cX4_count 45 (.aload_n 1) 1 46 ∧ ((1 : Fin 4) : Nat) = 1 := ⟨⟨vm_row tbX4_count 21 rfl, rfl⟩, rfl⟩
theorem dX4_count_46 : vm_at cX4_count 46 (.iload_n 2) 1 47 ∧ ((2 : Fin 4) : Nat) = 2 := ⟨⟨vm_row tbX4_count 22 rfl, rfl⟩, rfl⟩
theorem dX4_count_47 : vm_at cX4_count 47 (.invokevirtual 40) 3 50 := ⟨vm_row tbX4_count 23 rfl, rfl⟩
theorem dX4_count_50 : vm_at cX4_count 50 (.sipush 256) 3 53 ∧ (Int16.ofInt (256)).toInt32 = (256 : Int32) := ⟨⟨vm_row tbX4_count 24 rfl, rfl⟩, z_sipush_256⟩
theorem dX4_count_53 : vm_at cX4_count 53 (.invokestatic 46) 3 56 := ⟨vm_row tbX4_count 25 rfl, rfl⟩
theorem dX4_count_56 : vm_at cX4_count 56 (.iconst 1) 1 57 ∧ Int32.ofInt (1) = (1 : Int32) := ⟨⟨vm_row tbX4_count 26 rfl, rfl⟩, z_iconst_1⟩
theorem dX4_count_57 : vm_at cX4_count 57 (.istore 7) 2 59 := ⟨vm_row tbX4_count 27 rfl, rfl⟩
theorem dX4_count_59 : vm_at cX4_count 59 (.iload 7) 2 61 := ⟨vm_row tbX4_count 28 rfl, rfl⟩
theorem dX4_count_61 : vm_at cX4_count 61 (.iload_n 3) 1 62 ∧ ((3 : Fin 4) : Nat) = 3 := ⟨⟨vm_row tbX4_count 29 rfl, rfl⟩, rfl⟩
theorem dX4_count_62 : vm_br cX4_count 62 (.if_icmp .ge 36) 3 65 (36) 98 := ⟨vm_row tbX4_count 30 rfl, rfl, rfl⟩
theorem dX4_count_65 : vm_at cX4_count 65 (.aload 6) 2 67 := ⟨vm_row tbX4_count 31 rfl, rfl⟩
theorem dX4_count_67 : vm_at cX4_count 67 (.iconst 0) 1 68 ∧ Int32.ofInt (0) = (0 : Int32) := ⟨⟨vm_row tbX4_count 32 rfl, rfl⟩, z_iconst_0⟩
theorem dX4_count_68 : vm_at cX4_count 68 (.invokestatic 34) 3 71 := ⟨vm_row tbX4_count 33 rfl, rfl⟩
theorem dX4_count_71 : vm_at cX4_count 71 (.aload_n 0) 1 72 ∧ ((0 : Fin 4) : Nat) = 0 := ⟨⟨vm_row tbX4_count 34 rfl, rfl⟩, rfl⟩
theorem dX4_count_72 : vm_at cX4_count 72 (.aload_n 1) 1 73 ∧ ((1 : Fin 4) : Nat) = 1 := ⟨⟨vm_row tbX4_count 35 rfl, rfl⟩, rfl⟩
theorem dX4_count_73 : vm_at cX4_count 73 (.aload 5) 2 75 := ⟨vm_row tbX4_count 36 rfl, rfl⟩
theorem dX4_count_75 : vm_at cX4_count 75 (.aload 6) 2 77 := ⟨vm_row tbX4_count 37 rfl, rfl⟩
theorem dX4_count_77 : vm_at cX4_count 77 (.invokevirtual 50) 3 80 := ⟨vm_row tbX4_count 38 rfl, rfl⟩
theorem dX4_count_80 : vm_at cX4_count 80 (.aload 5) 2 82 := ⟨vm_row tbX4_count 39 rfl, rfl⟩
theorem dX4_count_82 : vm_at cX4_count 82 (.astore 8) 2 84 := ⟨vm_row tbX4_count 40 rfl, rfl⟩
theorem dX4_count_84 : vm_at cX4_count 84 (.aload 6) 2 86 := ⟨vm_row tbX4_count 41 rfl, rfl⟩
theorem dX4_count_86 : vm_at cX4_count 86 (.astore 5) 2 88 := ⟨vm_row tbX4_count 42 rfl, rfl⟩
theorem dX4_count_88 : vm_at cX4_count 88 (.aload 8) 2 90 := ⟨vm_row tbX4_count 43 rfl, rfl⟩
theorem dX4_count_90 : vm_at cX4_count 90 (.astore 6) 2 92 := ⟨vm_row tbX4_count 44 rfl, rfl⟩
theorem dX4_count_92 : vm_at cX4_count 92 (.iinc 7 1) 3 95 ∧ Int32.ofInt (1) = (1 : Int32) := ⟨⟨vm_row tbX4_count 45 rfl, rfl⟩, z_iconst_1⟩
theorem dX4_count_95 : vm_br cX4_count 95 (.goto (-36)) 3 98 (-36) 59 := ⟨vm_row tbX4_count 46 rfl, rfl, rfl⟩
theorem dX4_count_98 : vm_at cX4_count 98 (.iload_n 3) 1 99 ∧ ((3 : Fin 4) : Nat) = 3 := ⟨⟨vm_row tbX4_count 47 rfl, rfl⟩, rfl⟩
theorem dX4_count_99 : vm_br cX4_count 99 (.ifCond .ne 29) 3 102 (29) 128 := ⟨vm_row tbX4_count 48 rfl, rfl, rfl⟩
theorem dX4_count_102 : vm_at cX4_count 102 (.aload_n 0) 1 103 ∧ ((0 : Fin 4) : Nat) = 0 := ⟨⟨vm_row tbX4_count 49 rfl, rfl⟩, rfl⟩
theorem dX4_count_103 : vm_at cX4_count 103 (.iload_n 2) 1 104 ∧ ((2 : Fin 4) : Nat) = 2 := ⟨⟨vm_row tbX4_count 50 rfl, rfl⟩, rfl⟩
theorem dX4_count_104 : vm_at cX4_count 104 (.invokestatic 54) 3 107 := ⟨vm_row tbX4_count 51 rfl, rfl⟩
theorem dX4_count_107 : vm_at cX4_count 107 (.iload 4) 2 109 := ⟨vm_row tbX4_count 52 rfl, rfl⟩
theorem dX4_count_109 : vm_br cX4_count 109 (.if_icmp .ne 7) 3 112 (7) 116 := ⟨vm_row tbX4_count 53 rfl, rfl, rfl⟩
theorem dX4_count_112 : vm_at cX4_count 112 (.iconst 1) 1 113 ∧ Int32.ofInt (1) = (1 : Int32) := ⟨⟨vm_row tbX4_count 54 rfl, rfl⟩, z_iconst_1⟩
theorem dX4_count_113 : vm_br cX4_count 113 (.goto 4) 3 116 (4) 117 := ⟨vm_row tbX4_count 55 rfl, rfl, rfl⟩
theorem dX4_count_116 : vm_at cX4_count 116 (.iconst 0) 1 117 ∧ Int32.ofInt (0) = (0 : Int32) := ⟨⟨vm_row tbX4_count 56 rfl, rfl⟩, z_iconst_0⟩
theorem dX4_count_117 : vm_at cX4_count 117 (.putfield 9) 3 120 := ⟨vm_row tbX4_count 57 rfl, rfl⟩
theorem dX4_count_120 : vm_at cX4_count 120 (.aload_n 0) 1 121 ∧ ((0 : Fin 4) : Nat) = 0 := ⟨⟨vm_row tbX4_count 58 rfl, rfl⟩, rfl⟩
theorem dX4_count_121 : vm_at cX4_count 121 (.iconst 0) 1 122 ∧ Int32.ofInt (0) = (0 : Int32) := ⟨⟨vm_row tbX4_count 59 rfl, rfl⟩, z_iconst_0⟩
theorem dX4_count_122 : vm_at cX4_count 122 (.putfield 15) 3 125 := ⟨vm_row tbX4_count 60 rfl, rfl⟩
theorem dX4_count_125 : vm_br cX4_count 125 (.goto 12) 3 128 (12) 137 := ⟨vm_row tbX4_count 61 rfl, rfl, rfl⟩
theorem dX4_count_128 : vm_at cX4_count 128 (.aload_n 0) 1 129 ∧ ((0 : Fin 4) : Nat) = 0 := ⟨⟨vm_row tbX4_count 62 rfl, rfl⟩, rfl⟩
theorem dX4_count_129 : vm_at cX4_count 129 (.aload_n 1) 1 130 ∧ ((1 : Fin 4) : Nat) = 1 := ⟨⟨vm_row tbX4_count 63 rfl, rfl⟩, rfl⟩
theorem dX4_count_130 : vm_at cX4_count 130 (.aload 5) 2 132 := ⟨vm_row tbX4_count 64 rfl, rfl⟩
theorem dX4_count_132 : vm_at cX4_count 132 (.iload 4) 2 134 := ⟨vm_row tbX4_count 65 rfl, rfl⟩
theorem dX4_count_134 : vm_at cX4_count 134 (.invokevirtual 57) 3 137 := ⟨vm_row tbX4_count 66 rfl, rfl⟩
theorem dX4_count_137 : vm_at cX4_count 137 (.return_) 1 138 := ⟨vm_row tbX4_count 67 rfl, rfl⟩
def tlX4_goOn : List (Nat × Instr × Nat) := [(0, .aload_n 1, 1), (1, .invokevirtual 61, 3), (4, .aload_n 2, 1), (5, .arraylength, 1), (6, .invokestatic 65, 3), (9, .istore 4, 2), (11, .iconst 0, 1), (12, .istore 5, 2), (14, .iload 5, 2), (16, .iload 4, 2), (18, .if_icmp .ge 68, 3), (21, .aload_n 2, 1), (22, .iload 5, 2), (24, .iaload, 1), (25, .ifCond .eq 55, 3), (28, .aload_n 1, 1), (29, .iload 5, 2), (31, .invokevirtual 71, 3), (34, .istore 6, 2), (36, .iconst 0, 1), (37, .istore 7, 2), (39, .iload 7, 2), (41, .aload_n 1, 1), (42, .getfield 74, 3), (45, .if_icmp .ge 35, 3), (48, .aload_n 0, 1), (49, .aload_n 3, 1), (50, .aload_n 1, 1), (51, .aload_n 1, 1), (52, .iload 6, 2), (54, .iload 7, 2), (56, .invokevirtual 77, 3), (59, .invokevirtual 40, 3), (62, .aload_n 2, 1), (63, .iload 5, 2), (65, .iaload, 1), (66, .iconst 1, 1), (67, .iload 7, 2), (69, .ishl, 1), (70, .ior, 1), (71, .invokevirtual 80, 3), (74, .iinc 7 1, 3), (77, .goto (-38), 3), (80, .iinc 5 1, 3), (83, .goto (-69), 3), (86, .return_, 1)]
theorem tbX4_goOn : vm_chk cX4_goOn tlX4_goOn = true := by decide +kernel
theorem dX4_goOn_0 : vm_at cX4_goOn 0 (.aload_n 1) 1 1 ∧ ((1 : Fin 4) : Nat) = 1 := ⟨⟨vm_row tbX4_goOn 0 rfl, rfl⟩, rfl⟩
theorem dX4_goOn_1 : vm_at cX4_goOn 1 (.invokevirtual 61) 3 4 := ⟨vm_row tbX4_goOn 1 rfl, rfl⟩
theorem dX4_goOn_4 : vm_at cX4_goOn 4 (.aload_n 2) 1 5 ∧ ((2 : Fin 4) : Nat) = 2 := ⟨⟨vm_row tbX4_goOn 2 rfl, rfl⟩, rfl⟩
theorem dX4_goOn_5 : vm_at cX4_goOn 5 (.arraylength) 1 6 := ⟨vm_row tbX4_goOn 3 rfl, rfl⟩
theorem dX4_goOn_6 : vm_at cX4_goOn 6 (.invokestatic 65) 3 9 := ⟨vm_row tbX4_goOn 4 rfl, rfl⟩
theorem dX4_goOn_9 : vm_at cX4_goOn 9 (.istore 4) 2 11 := ⟨vm_row tbX4_goOn 5 rfl, rfl⟩
theorem dX4_goOn_11 : vm_at cX4_goOn 11 (.iconst 0) 1 12 ∧ Int32.ofInt (0) = (0 : Int32) := ⟨⟨vm_row tbX4_goOn 6 rfl, rfl⟩, z_iconst_0⟩
theorem dX4_goOn_12 : vm_at cX4_goOn 12 (.istore 5) 2 14 := ⟨vm_row tbX4_goOn 7 rfl, rfl⟩
theorem dX4_goOn_14 : vm_at cX4_goOn 14 (.iload 5) 2 16 := ⟨vm_row tbX4_goOn 8 rfl, rfl⟩
theorem dX4_goOn_16 : vm_at cX4_goOn 16 (.iload 4) 2 18 := ⟨vm_row tbX4_goOn 9 rfl, rfl⟩
theorem dX4_goOn_18 : vm_br cX4_goOn 18 (.if_icmp .ge 68) 3 21 (68) 86 := ⟨vm_row tbX4_goOn 10 rfl, rfl, rfl⟩
theorem dX4_goOn_21 : vm_at cX4_goOn 21 (.aload_n 2) 1 22 ∧ ((2 : Fin 4) : Nat) = 2 := ⟨⟨vm_row tbX4_goOn 11 rfl, rfl⟩, rfl⟩
theorem dX4_goOn_22 : vm_at cX4_goOn 22 (.iload 5) 2 24 := ⟨vm_row tbX4_goOn 12 rfl, rfl⟩
theorem dX4_goOn_24 : vm_at cX4_goOn 24 (.iaload) 1 25 := ⟨vm_row tbX4_goOn 13 rfl, rfl⟩
theorem dX4_goOn_25 : vm_br cX4_goOn 25 (.ifCond .eq 55) 3 28 (55) 80 := ⟨vm_row tbX4_goOn 14 rfl, rfl, rfl⟩
theorem dX4_goOn_28 : vm_at cX4_goOn 28 (.aload_n 1) 1 29 ∧ ((1 : Fin 4) : Nat) = 1 := ⟨⟨vm_row tbX4_goOn 15 rfl, rfl⟩, rfl⟩
theorem dX4_goOn_29 : vm_at cX4_goOn 29 (.iload 5) 2 31 := ⟨vm_row tbX4_goOn 16 rfl, rfl⟩
theorem dX4_goOn_31 : vm_at cX4_goOn 31 (.invokevirtual 71) 3 34 := ⟨vm_row tbX4_goOn 17 rfl, rfl⟩
theorem dX4_goOn_34 : vm_at cX4_goOn 34 (.istore 6) 2 36 := ⟨vm_row tbX4_goOn 18 rfl, rfl⟩
theorem dX4_goOn_36 : vm_at cX4_goOn 36 (.iconst 0) 1 37 ∧ Int32.ofInt (0) = (0 : Int32) := ⟨⟨vm_row tbX4_goOn 19 rfl, rfl⟩, z_iconst_0⟩
theorem dX4_goOn_37 : vm_at cX4_goOn 37 (.istore 7) 2 39 := ⟨vm_row tbX4_goOn 20 rfl, rfl⟩
theorem dX4_goOn_39 : vm_at cX4_goOn 39 (.iload 7) 2 41 := ⟨vm_row tbX4_goOn 21 rfl, rfl⟩
theorem dX4_goOn_41 : vm_at cX4_goOn 41 (.aload_n 1) 1 42 ∧ ((1 : Fin 4) : Nat) = 1 := ⟨⟨vm_row tbX4_goOn 22 rfl, rfl⟩, rfl⟩
theorem dX4_goOn_42 : vm_at cX4_goOn 42 (.getfield 74) 3 45 := ⟨vm_row tbX4_goOn 23 rfl, rfl⟩
theorem dX4_goOn_45 : vm_br cX4_goOn 45 (.if_icmp .ge 35) 3 48 (35) 80 := ⟨vm_row tbX4_goOn 24 rfl, rfl, rfl⟩
theorem dX4_goOn_48 : vm_at cX4_goOn 48 (.aload_n 0) 1 49 ∧ ((0 : Fin 4) : Nat) = 0 := ⟨⟨vm_row tbX4_goOn 25 rfl, rfl⟩, rfl⟩
theorem dX4_goOn_49 : vm_at cX4_goOn 49 (.aload_n 3) 1 50 ∧ ((3 : Fin 4) : Nat) = 3 := ⟨⟨vm_row tbX4_goOn 26 rfl, rfl⟩, rfl⟩
theorem dX4_goOn_50 : vm_at cX4_goOn 50 (.aload_n 1) 1 51 ∧ ((1 : Fin 4) : Nat) = 1 := ⟨⟨vm_row tbX4_goOn 27 rfl, rfl⟩, rfl⟩
theorem dX4_goOn_51 : vm_at cX4_goOn 51 (.aload_n 1) 1 52 ∧ ((1 : Fin 4) : Nat) = 1 := ⟨⟨vm_row tbX4_goOn 28 rfl, rfl⟩, rfl⟩
theorem dX4_goOn_52 : vm_at cX4_goOn 52 (.iload 6) 2 54 := ⟨vm_row tbX4_goOn 29 rfl, rfl⟩
theorem dX4_goOn_54 : vm_at cX4_goOn 54 (.iload 7) 2 56 := ⟨vm_row tbX4_goOn 30 rfl, rfl⟩
theorem dX4_goOn_56 : vm_at cX4_goOn 56 (.invokevirtual 77) 3 59 := ⟨vm_row tbX4_goOn 31 rfl, rfl⟩
theorem dX4_goOn_59 : vm_at cX4_goOn 59 (.invokevirtual 40) 3 62 := ⟨vm_row tbX4_goOn 32 rfl, rfl⟩
theorem dX4_goOn_62 : vm_at cX4_goOn 62 (.aload_n 2) 1 63 ∧ ((2 : Fin 4) : Nat) = 2 := ⟨⟨vm_row tbX4_goOn 33 rfl, rfl⟩, rfl⟩
theorem dX4_goOn_63 : vm_at cX4_goOn 63 (.iload 5) 2 65 := ⟨vm_row tbX4_goOn 34 rfl, rfl⟩
theorem dX4_goOn_65 : vm_at cX4_goOn 65 (.iaload) 1 66 := ⟨vm_row tbX4_goOn 35 rfl, rfl⟩
theorem dX4_goOn_66 : vm_at cX4_goOn 66 (.iconst 1) 1 67 ∧ Int32.ofInt (1) = (1 : Int32) := ⟨⟨vm_row tbX4_goOn 36 rfl, rfl⟩, z_iconst_1⟩
theorem dX4_goOn_67 : vm_at cX4_goOn 67 (.iload 7) 2 69 := ⟨vm_row tbX4_goOn 37 rfl, rfl⟩
theorem dX4_goOn_69 : vm_at cX4_goOn 69 (.ishl) 1 70 := ⟨vm_row tbX4_goOn 38 rfl, rfl⟩
theorem dX4_goOn_70 : vm_at cX4_goOn 70 (.ior) 1 71 := ⟨vm_row tbX4_goOn 39 rfl, rfl⟩
theorem dX4_goOn_71 : vm_at cX4_goOn 71 (.invokevirtual 80) 3 74 := ⟨vm_row tbX4_goOn 40 rfl, rfl⟩
theorem dX4_goOn_74 : vm_at cX4_goOn 74 (.iinc 7 1) 3 77 ∧ Int32.ofInt (1) = (1 : Int32) := ⟨⟨vm_row tbX4_goOn 41 rfl, rfl⟩, z_iconst_1⟩
theorem dX4_goOn_77 : vm_br cX4_goOn 77 (.goto (-38)) 3 80 (-38) 39 := ⟨vm_row tbX4_goOn 42 rfl, rfl, rfl⟩
theorem dX4_goOn_80 : vm_at cX4_goOn 80 (.iinc 5 1) 3 83 ∧ Int32.ofInt (1) = (1 : Int32) := ⟨⟨vm_row tbX4_goOn 43 rfl, rfl⟩, z_iconst_1⟩
theorem dX4_goOn_83 : vm_br cX4_goOn 83 (.goto (-69)) 3 86 (-69) 14 := ⟨vm_row tbX4_goOn 44 rfl, rfl, rfl⟩
theorem dX4_goOn_86 : vm_at cX4_goOn 86 (.return_) 1 87 := ⟨vm_row tbX4_goOn 45 rfl, rfl⟩
def tlX4_join : List (Nat × Instr × Nat) := [(0, .aload_n 1, 1), (1, .iload_n 2, 1), (2, .invokestatic 83, 3), (5, .istore 4, 2), (7, .iload 4, 2), (9, .ifCond .ne 12, 3), (12, .aload_n 1, 1), (13, .iload_n 2, 1), (14, .iload_n 3, 1), (15, .invokestatic 46, 3), (18, .goto 34, 3), (21, .iload 4, 2), (23, .bipush 8, 2), (25, .ishr, 1), (26, .iload_n 3, 1), (27, .bipush 8, 2), (29, .ishr, 1), (30, .iadd, 1), (31, .istore 5, 2), (33, .aload_n 1, 1), (34, .iload_n 2, 1), (35, .iload 5, 2), (37, .bipush 8, 2), (39, .ishl, 1), (40, .iload 4, 2), (42, .iload_n 3, 1), (43, .iand, 1), (44, .sipush 255, 3), (47, .iand, 1), (48, .ior, 1), (49, .invokestatic 46, 3), (52, .return_, 1)]
theorem tbX4_join : vm_chk cX4_join tlX4_join = true := by decide +kernel
theorem dX4_join_0 : vm_at cX4_join 0 (.aload_n 1) 1 1 ∧ ((1 : Fin 4) : Nat) = 1 := ⟨⟨vm_row tbX4_join 0 rfl, rfl⟩, rfl⟩
theorem dX4_join_1 : vm_at cX4_join 1 (.iload_n 2) 1 2 ∧ ((2 : Fin 4) : Nat) = 2 := ⟨⟨vm_row tbX4_join 1 rfl, rfl⟩, rfl⟩
theorem dX4_join_2 : vm_at cX4_join 2 (.invokestatic 83) 3 5 := ⟨vm_row tbX4_join 2 rfl, rfl⟩
theorem dX4_join_5 : vm_at cX4_join 5 (.istore 4) 2 7 := ⟨vm_row tbX4_join 3 rfl, rfl⟩
theorem dX4_join_7 : vm_at cX4_join 7 (.iload 4) 2 9 := ⟨vm_row tbX4_join 4 rfl, rfl⟩
theorem dX4_join_9 : vm_br cX4_join 9 (.ifCond .ne 12) 3 12 (12) 21 := ⟨vm_row tbX4_join 5 rfl, rfl, rfl⟩
theorem dX4_join_12 : vm_at cX4_join 12 (.aload_n 1) 1 13 ∧ ((1 : Fin 4) : Nat) = 1 := ⟨⟨vm_row tbX4_join 6 rfl, rfl⟩, rfl⟩
theorem dX4_join_13 : vm_at cX4_join 13 (.iload_n 2) 1 14 ∧ ((2 : Fin 4) : Nat) = 2 := ⟨⟨vm_row tbX4_join 7 rfl, rfl⟩, rfl⟩
theorem dX4_join_14 : vm_at cX4_join 14 (.iload_n 3) 1 15 ∧ ((3 : Fin 4) : Nat) = 3 := ⟨⟨vm_row tbX4_join 8 rfl, rfl⟩, rfl⟩
theorem dX4_join_15 : vm_at cX4_join 15 (.invokestatic 46) 3 18 := ⟨vm_row tbX4_join 9 rfl, rfl⟩
theorem dX4_join_18 : vm_br cX4_join 18 (.goto 34) 3 21 (34) 52 := ⟨vm_row tbX4_join 10 rfl, rfl, rfl⟩
theorem dX4_join_21 : vm_at cX4_join 21 (.iload 4) 2 23 := ⟨vm_row tbX4_join 11 rfl, rfl⟩
theorem dX4_join_23 : vm_at cX4_join 23 (.bipush 8) 2 25 ∧ (Int8.ofInt (8)).toInt32 = (8 : Int32) := ⟨⟨vm_row tbX4_join 12 rfl, rfl⟩, z_bipush_8⟩
theorem dX4_join_25 : vm_at cX4_join 25 (.ishr) 1 26 := ⟨vm_row tbX4_join 13 rfl, rfl⟩
theorem dX4_join_26 : vm_at cX4_join 26 (.iload_n 3) 1 27 ∧ ((3 : Fin 4) : Nat) = 3 := ⟨⟨vm_row tbX4_join 14 rfl, rfl⟩, rfl⟩
theorem dX4_join_27 : vm_at cX4_join 27 (.bipush 8) 2 29 ∧ (Int8.ofInt (8)).toInt32 = (8 : Int32) := ⟨⟨vm_row tbX4_join 15 rfl, rfl⟩, z_bipush_8⟩
theorem dX4_join_29 : vm_at cX4_join 29 (.ishr) 1 30 := ⟨vm_row tbX4_join 16 rfl, rfl⟩
theorem dX4_join_30 : vm_at cX4_join 30 (.iadd) 1 31 := ⟨vm_row tbX4_join 17 rfl, rfl⟩
theorem dX4_join_31 : vm_at cX4_join 31 (.istore 5) 2 33 := ⟨vm_row tbX4_join 18 rfl, rfl⟩
theorem dX4_join_33 : vm_at cX4_join 33 (.aload_n 1) 1 34 ∧ ((1 : Fin 4) : Nat) = 1 := ⟨⟨vm_row tbX4_join 19 rfl, rfl⟩, rfl⟩
theorem dX4_join_34 : vm_at cX4_join 34 (.iload_n 2) 1 35 ∧ ((2 : Fin 4) : Nat) = 2 := ⟨⟨vm_row tbX4_join 20 rfl, rfl⟩, rfl⟩
theorem dX4_join_35 : vm_at cX4_join 35 (.iload 5) 2 37 := ⟨vm_row tbX4_join 21 rfl, rfl⟩
theorem dX4_join_37 : vm_at cX4_join 37 (.bipush 8) 2 39 ∧ (Int8.ofInt (8)).toInt32 = (8 : Int32) := ⟨⟨vm_row tbX4_join 22 rfl, rfl⟩, z_bipush_8⟩
theorem dX4_join_39 : vm_at cX4_join 39 (.ishl) 1 40 := ⟨vm_row tbX4_join 23 rfl, rfl⟩
theorem dX4_join_40 : vm_at cX4_join 40 (.iload 4) 2 42 := ⟨vm_row tbX4_join 24 rfl, rfl⟩
theorem dX4_join_42 : vm_at cX4_join 42 (.iload_n 3) 1 43 ∧ ((3 : Fin 4) : Nat) = 3 := ⟨⟨vm_row tbX4_join 25 rfl, rfl⟩, rfl⟩
theorem dX4_join_43 : vm_at cX4_join 43 (.iand) 1 44 := ⟨vm_row tbX4_join 26 rfl, rfl⟩
theorem dX4_join_44 : vm_at cX4_join 44 (.sipush 255) 3 47 ∧ (Int16.ofInt (255)).toInt32 = (255 : Int32) := ⟨⟨vm_row tbX4_join 27 rfl, rfl⟩, z_sipush_255⟩
theorem dX4_join_47 : vm_at cX4_join 47 (.iand) 1 48 := ⟨vm_row tbX4_join 28 rfl, rfl⟩
theorem dX4_join_48 : vm_at cX4_join 48 (.ior) 1 49 := ⟨vm_row tbX4_join 29 rfl, rfl⟩
theorem dX4_join_49 : vm_at cX4_join 49 (.invokestatic 46) 3 52 := ⟨vm_row tbX4_join 30 rfl, rfl⟩
theorem dX4_join_52 : vm_at cX4_join 52 (.return_) 1 53 := ⟨vm_row tbX4_join 31 rfl, rfl⟩
def tlX4_countLast : List (Nat × Instr × Nat) := [(0, .aload_n 1, 1), (1, .invokevirtual 61, 3), (4, .aload_n 2, 1), (5, .arraylength, 1), (6, .invokestatic 65, 3), (9, .istore 4, 2), (11, .iconst 0, 1), (12, .istore 5, 2), (14, .iload 5, 2), (16, .iload 4, 2), (18, .if_icmp .ge 91, 3), (21, .aload_n 2, 1), (22, .iload 5, 2), (24, .iaload, 1), (25, .ifCond .eq 78, 3), (28, .aload_n 1, 1), (29, .iload 5, 2), (31, .invokevirtual 71, 3), (34, .istore 6, 2), (36, .iconst 0, 1), (37, .istore 7, 2), (39, .iload 7, 2), (41, .aload_n 1, 1), (42, .getfield 74, 3), (45, .if_icmp .ge 58, 3), (48, .aload_n 1, 1), (49, .iload 6, 2), (51, .iload 7, 2), (53, .invokevirtual 77, 3), (56, .invokestatic 54, 3), (59, .iload_n 3, 1), (60, .if_icmp .ne 37, 3), (63, .aload_n 0, 1), (64, .dup, 1), (65, .getfield 9, 3), (68, .aload_n 2, 1), (69, .iload 5, 2), (71, .iaload, 1), (72, .bipush 8, 2), (74, .ishr, 1), (75, .iadd, 1), (76, .putfield 9, 3), (79, .aload_n 0, 1), (80, .dup, 1), (81, .getfield 15, 3), (84, .aload_n 2, 1), (85, .iload 5, 2), (87, .iaload, 1), (88, .iconst 1, 1), (89, .iload 7, 2), (91, .ishl, 1), (92, .ior, 1), (93, .iand, 1), (94, .putfield 15, 3), (97, .iinc 7 1, 3), (100, .goto (-61), 3), (103, .iinc 5 1, 3), (106, .goto (-92), 3), (109, .aload_n 0, 1), (110, .getfield 9, 3), (113, .ifCond .ne 8, 3), (116, .aload_n 0, 1), (117, .iconst 0, 1), (118, .putfield 15, 3), (121, .return_, 1)]
theorem tbX4_countLast : vm_chk cX4_countLast tlX4_countLast = true := by decide +kernel
theorem dX4_countLast_0 : vm_at cX4_countLast 0 (.aload_n 1) 1 1 ∧ ((1 : Fin 4) : Nat) = 1 := ⟨⟨vm_row tbX4_countLast 0 rfl, rfl⟩, rfl⟩
theorem dX4_countLast_1 : vm_at cX4_countLast 1 (.invokevirtual 61) 3 4 := ⟨vm_row tbX4_countLast 1 rfl, rfl⟩
theorem dX4_countLast_4 : vm_at cX4_countLast 4 (.aload_n 2) 1 5 ∧ ((2 : Fin 4) : Nat) = 2 := ⟨⟨vm_row tbX4_countLast 2 rfl, rfl⟩, rfl⟩
theorem dX4_countLast_5 : vm_at cX4_countLast 5 (.arraylength) 1 6 := ⟨vm_row tbX4_countLast 3 rfl, rfl⟩
theorem dX4_countLast_6 : vm_at cX4_countLast 6 (.invokestatic 65) 3 9 := ⟨vm_row tbX4_countLast 4 rfl, rfl⟩
theorem dX4_countLast_9 : vm_at cX4_countLast 9 (.istore 4) 2 11 := ⟨vm_row tbX4_countLast 5 rfl, rfl⟩
theorem dX4_countLast_11 : vm_at cX4_countLast 11 (.iconst 0) 1 12 ∧ Int32.ofInt (0) = (0 : Int32) := ⟨⟨vm_row tbX4_countLast 6 rfl, rfl⟩, z_iconst_0⟩
theorem dX4_countLast_12 : vm_at cX4_countLast 12 (.istore 5) 2 14 := ⟨vm_row tbX4_countLast 7 rfl, rfl⟩
theorem dX4_countLast_14 : vm_at cX4_countLast 14 (.iload 5) 2 16 := ⟨vm_row tbX4_countLast 8 rfl, rfl⟩
theorem dX4_countLast_16 : vm_at cX4_countLast 16 (.iload 4) 2 18 := ⟨vm_row tbX4_countLast 9 rfl, rfl⟩
theorem dX4_countLast_18 : vm_br cX4_countLast 18 (.if_icmp .ge 91) 3 21 (91) 109 := ⟨vm_row tbX4_countLast 10 rfl, rfl, rfl⟩
theorem dX4_countLast_21 : vm_at cX4_countLast 21 (.aload_n 2) 1 22 ∧ ((2 : Fin 4) : Nat) = 2 := ⟨⟨vm_row tbX4_countLast 11 rfl, rfl⟩, rfl⟩
theorem dX4_countLast_22 : vm_at cX4_countLast 22 (.iload 5) 2 24 := ⟨vm_row tbX4_countLast 12 rfl, rfl⟩
theorem dX4_countLast_24 : vm_at cX4_countLast 24 (.iaload) 1 25 := ⟨vm_row tbX4_countLast 13 rfl, rfl⟩
theorem dX4_countLast_25 : vm_br cX4_countLast 25 (.ifCond .eq 78) 3 28 (78) 103 := ⟨vm_row tbX4_countLast 14 rfl, rfl, rfl⟩
theorem dX4_countLast_28 : vm_at cX4_countLast 28 (.aload_n 1) 1 29 ∧ ((1 : Fin 4) : Nat) = 1 := ⟨⟨vm_row tbX4_countLast 15 rfl, rfl⟩, rfl⟩
theorem dX4_countLast_29 : vm_at cX4_countLast 29 (.iload 5) 2 31 := ⟨vm_row tbX4_countLast 16 rfl, rfl⟩
theorem dX4_countLast_31 : vm_at cX4_countLast 31 (.invokevirtual 71) 3 34 := ⟨vm_row tbX4_countLast 17 rfl, rfl⟩
theorem dX4_countLast_34 : vm_at cX4_countLast 34 (.istore 6) 2 36 := ⟨vm_row tbX4_countLast 18 rfl, rfl⟩
theorem dX4_countLast_36 : vm_at cX4_countLast 36 (.iconst 0) 1 37 ∧ Int32.ofInt (0) = (0 : Int32) := ⟨⟨vm_row tbX4_countLast 19 rfl, rfl⟩, z_iconst_0⟩
theorem dX4_countLast_37 : vm_at cX4_countLast 37 (.istore 7) 2 39 := ⟨vm_row tbX4_countLast 20 rfl, rfl⟩
theorem dX4_countLast_39 : vm_at cX4_countLast 39 (.iload 7) 2 41 := ⟨vm_row tbX4_countLast 21 rfl, rfl⟩
theorem dX4_countLast_41 : vm_at cX4_countLast 41 (.aload_n 1) 1 42 ∧ ((1 : Fin 4) : Nat) = 1 := ⟨⟨vm_row tbX4_countLast 22 rfl, rfl⟩, rfl⟩
theorem dX4_countLast_42 : vm_at cX4_countLast 42 (.getfield 74) 3 45 := ⟨vm_row tbX4_countLast 23 rfl, rfl⟩
theorem dX4_countLast_45 : vm_br cX4_countLast 45 (.if_icmp .ge 58) 3 48 (58) 103 := ⟨vm_row tbX4_countLast 24 rfl, rfl, rfl⟩
theorem dX4_countLast_48 : vm_at cX4_countLast 48 (.aload_n 1) 1 49 ∧ ((1 : Fin 4) : Nat) = 1 := ⟨⟨vm_row tbX4_countLast 25 rfl, rfl⟩, rfl⟩
theorem dX4_countLast_49 : vm_at cX4_countLast 49 (.iload 6) 2 51 := ⟨vm_row tbX4_countLast 26 rfl, rfl⟩
theorem dX4_countLast_51 : vm_at cX4_countLast 51 (.iload 7) 2 53 := ⟨vm_row tbX4_countLast 27 rfl, rfl⟩
theorem dX4_countLast_53 : vm_at cX4_countLast 53 (.invokevirtual 77) 3 56 := ⟨vm_row tbX4_countLast 28 rfl, rfl⟩
theorem dX4_countLast_56 : vm_at cX4_countLast 56 (.invokestatic 54) 3 59 := ⟨vm_row tbX4_countLast 29 rfl, rfl⟩
theorem dX4_countLast_59 : vm_at cX4_countLast 59 (.iload_n 3) 1 60 ∧ ((3 : Fin 4) : Nat) = 3 := ⟨⟨vm_row tbX4_countLast 30 rfl, rfl⟩, rfl⟩
theorem dX4_countLast_60 : vm_br cX4_countLast 60 (.if_icmp .ne 37) 3 63 (37) 97 := ⟨vm_row tbX4_countLast 31 rfl, rfl, rfl⟩
theorem dX4_countLast_63 : vm_at cX4_countLast 63 (.aload_n 0) 1 64 ∧ ((0 : Fin 4) : Nat) = 0 := ⟨⟨vm_row tbX4_countLast 32 rfl, rfl⟩, rfl⟩
theorem dX4_countLast_64 : vm_at cX4_countLast 64 (.dup) 1 65 := ⟨vm_row tbX4_countLast 33 rfl, rfl⟩
theorem dX4_countLast_65 : vm_at cX4_countLast 65 (.getfield 9) 3 68 := ⟨vm_row tbX4_countLast 34 rfl, rfl⟩
theorem dX4_countLast_68 : vm_at cX4_countLast 68 (.aload_n 2) 1 69 ∧ ((2 : Fin 4) : Nat) = 2 := ⟨⟨vm_row tbX4_countLast 35 rfl, rfl⟩, rfl⟩
theorem dX4_countLast_69 : vm_at cX4_countLast 69 (.iload 5) 2 71 := ⟨vm_row tbX4_countLast 36 rfl, rfl⟩
theorem dX4_countLast_71 : vm_at cX4_countLast 71 (.iaload) 1 72 := ⟨vm_row tbX4_countLast 37 rfl, rfl⟩
theorem dX4_countLast_72 : vm_at cX4_countLast 72 (.bipush 8) 2 74 ∧ (Int8.ofInt (8)).toInt32 = (8 : Int32) := ⟨⟨vm_row tbX4_countLast 38 rfl, rfl⟩, z_bipush_8⟩
theorem dX4_countLast_74 : vm_at cX4_countLast 74 (.ishr) 1 75 := ⟨vm_row tbX4_countLast 39 rfl, rfl⟩
theorem dX4_countLast_75 : vm_at cX4_countLast 75 (.iadd) 1 76 := ⟨vm_row tbX4_countLast 40 rfl, rfl⟩
theorem dX4_countLast_76 : vm_at cX4_countLast 76 (.putfield 9) 3 79 := ⟨vm_row tbX4_countLast 41 rfl, rfl⟩
theorem dX4_countLast_79 : vm_at cX4_countLast 79 (.aload_n 0) 1 80 ∧ ((0 : Fin 4) : Nat) = 0 := ⟨⟨vm_row tbX4_countLast 42 rfl, rfl⟩, rfl⟩
theorem dX4_countLast_80 : vm_at cX4_countLast 80 (.dup) 1 81 := ⟨vm_row tbX4_countLast 43 rfl, rfl⟩
theorem dX4_countLast_81 : vm_at cX4_countLast 81 (.getfield 15) 3 84 := ⟨vm_row tbX4_countLast 44 rfl, rfl⟩
theorem dX4_countLast_84 : vm_at cX4_countLast 84 (.aload_n 2) 1 85 ∧ ((2 : Fin 4) : Nat) = 2 := ⟨⟨vm_row tbX4_countLast 45 rfl, rfl⟩, rfl⟩
theorem dX4_countLast_85 : vm_at cX4_countLast 85 (.iload 5) 2 87 := ⟨vm_row tbX4_countLast 46 rfl, rfl⟩
theorem dX4_countLast_87 : vm_at cX4_countLast 87 (.iaload) 1 88 := ⟨vm_row tbX4_countLast 47 rfl, rfl⟩
theorem dX4_countLast_88 : vm_at cX4_countLast 88 (.iconst 1) 1 89 ∧ Int32.ofInt (1) = (1 : Int32) := ⟨⟨vm_row tbX4_countLast 48 rfl, rfl⟩, z_iconst_1⟩
theorem dX4_countLast_89 : vm_at cX4_countLast 89 (.iload 7) 2 91 := ⟨vm_row tbX4_countLast 49 rfl, rfl⟩
theorem dX4_countLast_91 : vm_at cX4_countLast 91 (.ishl) 1 92 := ⟨vm_row tbX4_countLast 50 rfl, rfl⟩
theorem dX4_countLast_92 : vm_at cX4_countLast 92 (.ior) 1 93 := ⟨vm_row tbX4_countLast 51 rfl, rfl⟩
theorem dX4_countLast_93 : vm_at cX4_countLast 93 (.iand) 1 94 := ⟨vm_row tbX4_countLast 52 rfl, rfl⟩
theorem dX4_countLast_94 : vm_at cX4_countLast 94 (.putfield 15) 3 97 := ⟨vm_row tbX4_countLast 53 rfl, rfl⟩
theorem dX4_countLast_97 : vm_at cX4_countLast 97 (.iinc 7 1) 3 100 ∧ Int32.ofInt (1) = (1 : Int32) := ⟨⟨vm_row tbX4_countLast 54 rfl, rfl⟩, z_iconst_1⟩
theorem dX4_countLast_100 : vm_br cX4_countLast 100 (.goto (-61)) 3 103 (-61) 39 := ⟨vm_row tbX4_countLast 55 rfl, rfl, rfl⟩
theorem dX4_countLast_103 : vm_at cX4_countLast 103 (.iinc 5 1) 3 106 ∧ Int32.ofInt (1) = (1 : Int32) := ⟨⟨vm_row tbX4_countLast 56 rfl, rfl⟩, z_iconst_1⟩
theorem dX4_countLast_106 : vm_br cX4_countLast 106 (.goto (-92)) 3 109 (-92) 14 := ⟨vm_row tbX4_countLast 57 rfl, rfl, rfl⟩
theorem dX4_countLast_109 : vm_at cX4_countLast 109 (.aload_n 0) 1 110 ∧ ((0 : Fin 4) : Nat) = 0 := ⟨⟨vm_row tbX4_countLast 58 rfl, rfl⟩, rfl⟩
theorem dX4_countLast_110 : vm_at cX4_countLast 110 (.getfield 9) 3 113 := ⟨vm_row tbX4_countLast 59 rfl, rfl⟩
theorem dX4_countLast_113 : vm_br cX4_countLast 113 (.ifCond .ne 8) 3 116 (8) 121 := ⟨vm_row tbX4_countLast 60 rfl, rfl, rfl⟩
theorem dX4_countLast_116 : vm_at cX4_countLast 116 (.aload_n 0) 1 117 ∧ ((0 : Fin 4) : Nat) = 0 := ⟨⟨vm_row tbX4_countLast 61 rfl, rfl⟩, rfl⟩
theorem dX4_countLast_117 : vm_at cX4_countLast 117 (.iconst 0) 1 118 ∧ Int32.ofInt (0) = (0 : Int32) := ⟨⟨vm_row tbX4_countLast 62 rfl, rfl⟩, z_iconst_0⟩
theorem dX4_countLast_118 : vm_at cX4_countLast 118 (.putfield 15) 3 121 := ⟨vm_row tbX4_countLast 63 rfl, rfl⟩
theorem dX4_countLast_121 : vm_at cX4_countLast 121 (.return_) 1 122 := ⟨vm_row tbX4_countLast 64 rfl, rfl⟩
def tlX5_become : List (Nat × Instr × Nat) := [(0, .aload_n 0, 1), (1, .aload_n 1, 1), (2, .getfield 9, 3), (5, .putfield 9, 3), (8, .aload_n 0, 1), (9, .aload_n 1, 1), (10, .getfield 15, 3), (13, .putfield 15, 3), (16, .aload_n 0, 1), (17, .aload_n 1, 1), (18, .getfield 18, 3), (21, .putfield 18, 3), (24, .aload_n 0, 1), (25, .aload_n 1, 1), (26, .getfield 21, 3), (29, .putfield 21, 3), (32, .iconst 0, 1), (33, .istore_n 2, 1), (34, .iload_n 2, 1), (35, .bipush 6, 2), (37, .if_icmp .ge 25, 3), (40, .aload_n 0, 1), (41, .getfield 28, 3), (44, .iload_n 2, 1), (45, .aload_n 1, 1), (46, .getfield 28, 3), (49, .iload_n 2, 1), (50, .invokestatic 32, 3), (53, .invokestatic 36, 3), (56, .iinc 2 1, 3), (59, .goto (-25), 3), (62, .return_, 1)]
theorem tbX5_become : vm_chk cX5_become tlX5_become = true := by decide +kernel
theorem dX5_become_0 : vm_at cX5_become 0 (.aload_n 0) 1 1 ∧ ((0 : Fin 4) : Nat) = 0 := ⟨⟨vm_row tbX5_become 0 rfl, rfl⟩, rfl⟩
theorem dX5_become_1 : vm_at cX5_become 1 (.aload_n 1) 1 2 ∧ ((1 : Fin 4) : Nat) = 1 := ⟨⟨vm_row tbX5_become 1 rfl, rfl⟩, rfl⟩
theorem dX5_become_2 : vm_at cX5_become 2 (.getfield 9) 3 5 := ⟨vm_row tbX5_become 2 rfl, rfl⟩
theorem dX5_become_5 : vm_at cX5_become 5 (.putfield 9) 3 8 := ⟨vm_row tbX5_become 3 rfl, rfl⟩
theorem dX5_become_8 : vm_at cX5_become 8 (.aload_n 0) 1 9 ∧ ((0 : Fin 4) : Nat) = 0 := ⟨⟨vm_row tbX5_become 4 rfl, rfl⟩, rfl⟩
theorem dX5_become_9 : vm_at cX5_become 9 (.aload_n 1) 1 10 ∧ ((1 : Fin 4) : Nat) = 1 := ⟨⟨vm_row tbX5_become 5 rfl, rfl⟩, rfl⟩
theorem dX5_become_10 : vm_at cX5_become 10 (.getfield 15) 3 13 := ⟨vm_row tbX5_become 6 rfl, rfl⟩
theorem dX5_become_13 : vm_at cX5_become 13 (.putfield 15) 3 16 := ⟨vm_row tbX5_become 7 rfl, rfl⟩
theorem dX5_become_16 : vm_at cX5_become 16 (.aload_n 0) 1 17 ∧ ((0 : Fin 4) : Nat) = 0 := ⟨⟨vm_row tbX5_become 8 rfl, rfl⟩, rfl⟩
theorem dX5_become_17 : vm_at cX5_become 17 (.aload_n 1) 1 18 ∧ ((1 : Fin 4) : Nat) = 1 := ⟨⟨vm_row tbX5_become 9 rfl, rfl⟩, rfl⟩
theorem dX5_become_18 : vm_at cX5_become 18 (.getfield 18) 3 21 := ⟨vm_row tbX5_become 10 rfl, rfl⟩
theorem dX5_become_21 : vm_at cX5_become 21 (.putfield 18) 3 24 := ⟨vm_row tbX5_become 11 rfl, rfl⟩
theorem dX5_become_24 : vm_at cX5_become 24 (.aload_n 0) 1 25 ∧ ((0 : Fin 4) : Nat) = 0 := ⟨⟨vm_row tbX5_become 12 rfl, rfl⟩, rfl⟩
theorem dX5_become_25 : vm_at cX5_become 25 (.aload_n 1) 1 26 ∧ ((1 : Fin 4) : Nat) = 1 := ⟨⟨vm_row tbX5_become 13 rfl, rfl⟩, rfl⟩
theorem dX5_become_26 : vm_at cX5_become 26 (.getfield 21) 3 29 := ⟨vm_row tbX5_become 14 rfl, rfl⟩
theorem dX5_become_29 : vm_at cX5_become 29 (.putfield 21) 3 32 := ⟨vm_row tbX5_become 15 rfl, rfl⟩
theorem dX5_become_32 : vm_at cX5_become 32 (.iconst 0) 1 33 ∧ Int32.ofInt (0) = (0 : Int32) := ⟨⟨vm_row tbX5_become 16 rfl, rfl⟩, z_iconst_0⟩
theorem dX5_become_33 : vm_at cX5_become 33 (.istore_n 2) 1 34 ∧ ((2 : Fin 4) : Nat) = 2 := ⟨⟨vm_row tbX5_become 17 rfl, rfl⟩, rfl⟩
theorem dX5_become_34 : vm_at cX5_become 34 (.iload_n 2) 1 35 ∧ ((2 : Fin 4) : Nat) = 2 := ⟨⟨vm_row tbX5_become 18 rfl, rfl⟩, rfl⟩
theorem dX5_become_35 : vm_at cX5_become 35 (.bipush 6) 2 37 ∧ (Int8.ofInt (6)).toInt32 = (6 : Int32) := ⟨⟨vm_row tbX5_become 19 rfl, rfl⟩, z_bipush_6⟩
theorem dX5_become_37 : vm_br cX5_become 37 (.if_icmp .ge 25) 3 40 (25) 62 := ⟨vm_row tbX5_become 20 rfl, rfl, rfl⟩
theorem dX5_become_40 : vm_at cX5_become 40 (.aload_n 0) 1 41 ∧ ((0 : Fin 4) : Nat) = 0 := ⟨⟨vm_row tbX5_become 21 rfl, rfl⟩, rfl⟩
theorem dX5_become_41 : vm_at cX5_become 41 (.getfield 28) 3 44 := ⟨vm_row tbX5_become 22 rfl, rfl⟩
theorem dX5_become_44 : vm_at cX5_become 44 (.iload_n 2) 1 45 ∧ ((2 : Fin 4) : Nat) = 2 := ⟨⟨vm_row tbX5_become 23 rfl, rfl⟩, rfl⟩
theorem dX5_become_45 : vm_at cX5_become 45 (.aload_n 1) 1 46 ∧ ((1 : Fin 4) : Nat) = 1 := ⟨⟨vm_row tbX5_become 24 rfl, rfl⟩, rfl⟩
theorem dX5_become_46 : vm_at cX5_become 46 (.getfield 28) 3 49 := ⟨vm_row tbX5_become 25 rfl, rfl⟩
theorem dX5_become_49 : vm_at cX5_become 49 (.iload_n 2) 1 50 ∧ ((2 : Fin 4) : Nat) = 2 := ⟨⟨vm_row tbX5_become 26 rfl, rfl⟩, rfl⟩
theorem dX5_become_50 : vm_at cX5_become 50 (.invokestatic 32) 3 53 := ⟨vm_row tbX5_become 27 rfl, rfl⟩
theorem dX5_become_53 : vm_at cX5_become 53 (.invokestatic 36) 3 56 := ⟨vm_row tbX5_become 28 rfl, rfl⟩
theorem dX5_become_56 : vm_at cX5_become 56 (.iinc 2 1) 3 59 ∧ Int32.ofInt (1) = (1 : Int32) := ⟨⟨vm_row tbX5_become 29 rfl, rfl⟩, z_iconst_1⟩
theorem dX5_become_59 : vm_br cX5_become 59 (.goto (-25)) 3 62 (-25) 34 := ⟨vm_row tbX5_become 30 rfl, rfl, rfl⟩
theorem dX5_become_62 : vm_at cX5_become 62 (.return_) 1 63 := ⟨vm_row tbX5_become 31 rfl, rfl⟩
def tlX5_strikeOnce : List (Nat × Instr × Nat) := [(0, .aload_n 0, 1), (1, .aload_n 1, 1), (2, .aload_n 0, 1), (3, .getfield 9, 3), (6, .iload_n 2, 1), (7, .invokevirtual 40, 3), (10, .putfield 9, 3), (13, .aload_n 0, 1), (14, .dup, 1), (15, .getfield 15, 3), (18, .aload_n 1, 1), (19, .getfield 46, 3), (22, .iload_n 2, 1), (23, .invokestatic 32, 3), (26, .iadd, 1), (27, .putfield 15, 3), (30, .return_, 1)]
theorem tbX5_strikeOnce : vm_chk cX5_strikeOnce tlX5_strikeOnce = true := by decide +kernel
theorem dX5_strikeOnce_0 : vm_at cX5_strikeOnce 0 (.aload_n 0) 1 1 ∧ ((0 : Fin 4) : Nat) = 0 := ⟨⟨vm_row tbX5_strikeOnce 0 rfl, rfl⟩, rfl⟩
theorem dX5_strikeOnce_1 : vm_at cX5_strikeOnce 1 (.aload_n 1) 1 2 ∧ ((1 : Fin 4) : Nat) = 1 := ⟨⟨vm_row tbX5_strikeOnce 1 rfl, rfl⟩, rfl⟩
theorem dX5_strikeOnce_2 : vm_at cX5_strikeOnce 2 (.aload_n 0) 1 3 ∧ ((0 : Fin 4) : Nat) = 0 := ⟨⟨vm_row tbX5_strikeOnce 2 rfl, rfl⟩, rfl⟩
theorem dX5_strikeOnce_3 : vm_at cX5_strikeOnce 3 (.getfield 9) 3 6 := ⟨vm_row tbX5_strikeOnce 3 rfl, rfl⟩
theorem dX5_strikeOnce_6 : vm_at cX5_strikeOnce 6 (.iload_n 2) 1 7 ∧ ((2 : Fin 4) : Nat) = 2 := ⟨⟨vm_row tbX5_strikeOnce 4 rfl, rfl⟩, rfl⟩
theorem dX5_strikeOnce_7 : vm_at cX5_strikeOnce 7 (.invokevirtual 40) 3 10 := ⟨vm_row tbX5_strikeOnce 5 rfl, rfl⟩
theorem dX5_strikeOnce_10 : vm_at cX5_strikeOnce 10 (.putfield 9) 3 13 := ⟨vm_row tbX5_strikeOnce 6 rfl, rfl⟩
theorem dX5_strikeOnce_13 : vm_at cX5_strikeOnce 13 (.aload_n 0) 1 14 ∧ ((0 : Fin 4) : Nat) = 0 := ⟨⟨vm_row tbX5_strikeOnce 7 rfl, rfl⟩, rfl⟩
theorem dX5_strikeOnce_14 : vm_at cX5_strikeOnce 14 (.dup) 1 15 := ⟨vm_row tbX5_strikeOnce 8 rfl, rfl⟩
theorem dX5_strikeOnce_15 : vm_at cX5_strikeOnce 15 (.getfield 15) 3 18 := ⟨vm_row tbX5_strikeOnce 9 rfl, rfl⟩
theorem dX5_strikeOnce_18 : vm_at cX5_strikeOnce 18 (.aload_n 1) 1 19 ∧ ((1 : Fin 4) : Nat) = 1 := ⟨⟨vm_row tbX5_strikeOnce 10 rfl, rfl⟩, rfl⟩
theorem dX5_strikeOnce_19 : vm_at cX5_strikeOnce 19 (.getfield 46) 3 22 := ⟨vm_row tbX5_strikeOnce 11 rfl, rfl⟩
theorem dX5_strikeOnce_22 : vm_at cX5_strikeOnce 22 (.iload_n 2) 1 23 ∧ ((2 : Fin 4) : Nat) = 2 := ⟨⟨vm_row tbX5_strikeOnce 12 rfl, rfl⟩, rfl⟩
theorem dX5_strikeOnce_23 : vm_at cX5_strikeOnce 23 (.invokestatic 32) 3 26 := ⟨vm_row tbX5_strikeOnce 13 rfl, rfl⟩
theorem dX5_strikeOnce_26 : vm_at cX5_strikeOnce 26 (.iadd) 1 27 := ⟨vm_row tbX5_strikeOnce 14 rfl, rfl⟩
theorem dX5_strikeOnce_27 : vm_at cX5_strikeOnce 27 (.putfield 15) 3 30 := ⟨vm_row tbX5_strikeOnce 15 rfl, rfl⟩
theorem dX5_strikeOnce_30 : vm_at cX5_strikeOnce 30 (.return_) 1 31 := ⟨vm_row tbX5_strikeOnce 16 rfl, rfl⟩
def tlX5_draw : List (Nat × Instr × Nat) := [(0, .aload_n 0, 1), (1, .aload_n 0, 1), (2, .getfield 18, 3), (5, .i2l, 1), (6, .ldc2_w 49, 3), (9, .lmul, 1), (10, .ldc2_w 51, 3), (13, .ladd, 1), (14, .ldc2_w 53, 3), (17, .land, 1), (18, .l2i, 1), (19, .putfield 18, 3), (22, .iload_n 1, 1), (23, .ifCond .le 15, 3), (26, .aload_n 0, 1), (27, .getfield 18, 3), (30, .ldc 55, 2), (32, .idiv, 1), (33, .iload_n 1, 1), (34, .irem, 1), (35, .goto 4, 3), (38, .iconst 0, 1), (39, .ireturn, 1)]
theorem tbX5_draw : vm_chk cX5_draw tlX5_draw = true := by decide +kernel
theorem dX5_draw_0 : vm_at cX5_draw 0 (.aload_n 0) 1 1 ∧ ((0 : Fin 4) : Nat) = 0 := ⟨⟨vm_row tbX5_draw 0 rfl, rfl⟩, rfl⟩
theorem dX5_draw_1 : vm_at cX5_draw 1 (.aload_n 0) 1 2 ∧ ((0 : Fin 4) : Nat) = 0 := ⟨⟨vm_row tbX5_draw 1 rfl, rfl⟩, rfl⟩
theorem dX5_draw_2 : vm_at cX5_draw 2 (.getfield 18) 3 5 := ⟨vm_row tbX5_draw 2 rfl, rfl⟩
theorem dX5_draw_5 : vm_at cX5_draw 5 (.i2l) 1 6 := ⟨vm_row tbX5_draw 3 rfl, rfl⟩
theorem dX5_draw_6 : vm_at cX5_draw 6 (.ldc2_w 49) 3 9 := ⟨vm_row tbX5_draw 4 rfl, rfl⟩
theorem dX5_draw_9 : vm_at cX5_draw 9 (.lmul) 1 10 := ⟨vm_row tbX5_draw 5 rfl, rfl⟩
theorem dX5_draw_10 : vm_at cX5_draw 10 (.ldc2_w 51) 3 13 := ⟨vm_row tbX5_draw 6 rfl, rfl⟩
theorem dX5_draw_13 : vm_at cX5_draw 13 (.ladd) 1 14 := ⟨vm_row tbX5_draw 7 rfl, rfl⟩
theorem dX5_draw_14 : vm_at cX5_draw 14 (.ldc2_w 53) 3 17 := ⟨vm_row tbX5_draw 8 rfl, rfl⟩
theorem dX5_draw_17 : vm_at cX5_draw 17 (.land) 1 18 := ⟨vm_row tbX5_draw 9 rfl, rfl⟩
theorem dX5_draw_18 : vm_at cX5_draw 18 (.l2i) 1 19 := ⟨vm_row tbX5_draw 10 rfl, rfl⟩
theorem dX5_draw_19 : vm_at cX5_draw 19 (.putfield 18) 3 22 := ⟨vm_row tbX5_draw 11 rfl, rfl⟩
theorem dX5_draw_22 : vm_at cX5_draw 22 (.iload_n 1) 1 23 ∧ ((1 : Fin 4) : Nat) = 1 := ⟨⟨vm_row tbX5_draw 12 rfl, rfl⟩, rfl⟩
theorem dX5_draw_23 : vm_br cX5_draw 23 (.ifCond .le 15) 3 26 (15) 38 := ⟨vm_row tbX5_draw 13 rfl, rfl, rfl⟩
theorem dX5_draw_26 : vm_at cX5_draw 26 (.aload_n 0) 1 27 ∧ ((0 : Fin 4) : Nat) = 0 := ⟨⟨vm_row tbX5_draw 14 rfl, rfl⟩, rfl⟩
theorem dX5_draw_27 : vm_at cX5_draw 27 (.getfield 18) 3 30 := ⟨vm_row tbX5_draw 15 rfl, rfl⟩
theorem dX5_draw_30 : vm_at cX5_draw 30 (.ldc 55) 2 32 := ⟨vm_row tbX5_draw 16 rfl, rfl⟩
theorem dX5_draw_32 : vm_at cX5_draw 32 (.idiv) 1 33 := ⟨vm_row tbX5_draw 17 rfl, rfl⟩
theorem dX5_draw_33 : vm_at cX5_draw 33 (.iload_n 1) 1 34 ∧ ((1 : Fin 4) : Nat) = 1 := ⟨⟨vm_row tbX5_draw 18 rfl, rfl⟩, rfl⟩
theorem dX5_draw_34 : vm_at cX5_draw 34 (.irem) 1 35 := ⟨vm_row tbX5_draw 19 rfl, rfl⟩
theorem dX5_draw_35 : vm_br cX5_draw 35 (.goto 4) 3 38 (4) 39 := ⟨vm_row tbX5_draw 20 rfl, rfl, rfl⟩
theorem dX5_draw_38 : vm_at cX5_draw 38 (.iconst 0) 1 39 ∧ Int32.ofInt (0) = (0 : Int32) := ⟨⟨vm_row tbX5_draw 21 rfl, rfl⟩, z_iconst_0⟩
theorem dX5_draw_39 : vm_at cX5_draw 39 (.ireturn) 1 40 := ⟨vm_row tbX5_draw 22 rfl, rfl⟩
def tlX6_empty : List (Nat × Instr × Nat) := [(0, .aload_n 0, 1), (1, .iconst (-1), 1), (2, .iconst 0, 1), (3, .iconst 0, 1), (4, .iconst 0, 1), (5, .invokevirtual 40, 3), (8, .aload_n 0, 1), (9, .iconst 0, 1), (10, .putfield 24, 3), (13, .return_, 1)]
theorem tbX6_empty : vm_chk cX6_empty tlX6_empty = true := by decide +kernel
theorem dX6_empty_0 : vm_at cX6_empty 0 (.aload_n 0) 1 1 ∧ ((0 : Fin 4) : Nat) = 0 := ⟨⟨vm_row tbX6_empty 0 rfl, rfl⟩, rfl⟩
theorem dX6_empty_1 : vm_at cX6_empty 1 (.iconst (-1)) 1 2 ∧ Int32.ofInt (-1) = (-1 : Int32) := ⟨⟨vm_row tbX6_empty 1 rfl, rfl⟩, z_iconst_m1⟩
theorem dX6_empty_2 : vm_at cX6_empty 2 (.iconst 0) 1 3 ∧ Int32.ofInt (0) = (0 : Int32) := ⟨⟨vm_row tbX6_empty 2 rfl, rfl⟩, z_iconst_0⟩
theorem dX6_empty_3 : vm_at cX6_empty 3 (.iconst 0) 1 4 ∧ Int32.ofInt (0) = (0 : Int32) := ⟨⟨vm_row tbX6_empty 3 rfl, rfl⟩, z_iconst_0⟩
theorem dX6_empty_4 : vm_at cX6_empty 4 (.iconst 0) 1 5 ∧ Int32.ofInt (0) = (0 : Int32) := ⟨⟨vm_row tbX6_empty 4 rfl, rfl⟩, z_iconst_0⟩
theorem dX6_empty_5 : vm_at cX6_empty 5 (.invokevirtual 40) 3 8 := ⟨vm_row tbX6_empty 5 rfl, rfl⟩
theorem dX6_empty_8 : vm_at cX6_empty 8 (.aload_n 0) 1 9 ∧ ((0 : Fin 4) : Nat) = 0 := ⟨⟨vm_row tbX6_empty 6 rfl, rfl⟩, rfl⟩
theorem dX6_empty_9 : vm_at cX6_empty 9 (.iconst 0) 1 10 ∧ Int32.ofInt (0) = (0 : Int32) := ⟨⟨vm_row tbX6_empty 7 rfl, rfl⟩, z_iconst_0⟩
theorem dX6_empty_10 : vm_at cX6_empty 10 (.putfield 24) 3 13 := ⟨vm_row tbX6_empty 8 rfl, rfl⟩
theorem dX6_empty_13 : vm_at cX6_empty 13 (.return_) 1 14 := ⟨vm_row tbX6_empty 9 rfl, rfl⟩
def tlX6_setDial : List (Nat × Instr × Nat) := [(0, .aload_n 0, 1), (1, .iload_n 1, 1), (2, .putfield 9, 3), (5, .aload_n 0, 1), (6, .iload_n 2, 1), (7, .putfield 15, 3), (10, .aload_n 0, 1), (11, .iload_n 3, 1), (12, .putfield 18, 3), (15, .aload_n 0, 1), (16, .iload 4, 2), (18, .putfield 21, 3), (21, .return_, 1)]
theorem tbX6_setDial : vm_chk cX6_setDial tlX6_setDial = true := by decide +kernel
theorem dX6_setDial_0 : vm_at cX6_setDial 0 (.aload_n 0) 1 1 ∧ ((0 : Fin 4) : Nat) = 0 := ⟨⟨vm_row tbX6_setDial 0 rfl, rfl⟩, rfl⟩
theorem dX6_setDial_1 : vm_at cX6_setDial 1 (.iload_n 1) 1 2 ∧ ((1 : Fin 4) : Nat) = 1 := ⟨⟨vm_row tbX6_setDial 1 rfl, rfl⟩, rfl⟩
theorem dX6_setDial_2 : vm_at cX6_setDial 2 (.putfield 9) 3 5 := ⟨vm_row tbX6_setDial 2 rfl, rfl⟩
theorem dX6_setDial_5 : vm_at cX6_setDial 5 (.aload_n 0) 1 6 ∧ ((0 : Fin 4) : Nat) = 0 := ⟨⟨vm_row tbX6_setDial 3 rfl, rfl⟩, rfl⟩
theorem dX6_setDial_6 : vm_at cX6_setDial 6 (.iload_n 2) 1 7 ∧ ((2 : Fin 4) : Nat) = 2 := ⟨⟨vm_row tbX6_setDial 4 rfl, rfl⟩, rfl⟩
theorem dX6_setDial_7 : vm_at cX6_setDial 7 (.putfield 15) 3 10 := ⟨vm_row tbX6_setDial 5 rfl, rfl⟩
theorem dX6_setDial_10 : vm_at cX6_setDial 10 (.aload_n 0) 1 11 ∧ ((0 : Fin 4) : Nat) = 0 := ⟨⟨vm_row tbX6_setDial 6 rfl, rfl⟩, rfl⟩
theorem dX6_setDial_11 : vm_at cX6_setDial 11 (.iload_n 3) 1 12 ∧ ((3 : Fin 4) : Nat) = 3 := ⟨⟨vm_row tbX6_setDial 7 rfl, rfl⟩, rfl⟩
theorem dX6_setDial_12 : vm_at cX6_setDial 12 (.putfield 18) 3 15 := ⟨vm_row tbX6_setDial 8 rfl, rfl⟩
theorem dX6_setDial_15 : vm_at cX6_setDial 15 (.aload_n 0) 1 16 ∧ ((0 : Fin 4) : Nat) = 0 := ⟨⟨vm_row tbX6_setDial 9 rfl, rfl⟩, rfl⟩
theorem dX6_setDial_16 : vm_at cX6_setDial 16 (.iload 4) 2 18 := ⟨vm_row tbX6_setDial 10 rfl, rfl⟩
theorem dX6_setDial_18 : vm_at cX6_setDial 18 (.putfield 21) 3 21 := ⟨vm_row tbX6_setDial 11 rfl, rfl⟩
theorem dX6_setDial_21 : vm_at cX6_setDial 21 (.return_) 1 22 := ⟨vm_row tbX6_setDial 12 rfl, rfl⟩
def tlX6_addKey : List (Nat × Instr × Nat) := [(0, .aload_n 0, 1), (1, .getfield 24, 3), (4, .ifCond .lt 71, 3), (7, .aload_n 0, 1), (8, .getfield 24, 3), (11, .bipush 9, 2), (13, .if_icmp .ge 62, 3), (16, .aload_n 0, 1), (17, .getfield 27, 3), (20, .aload_n 0, 1), (21, .getfield 24, 3), (24, .iload_n 1, 1), (25, .invokestatic 44, 3), (28, .aload_n 0, 1), (29, .getfield 31, 3), (32, .aload_n 0, 1), (33, .getfield 24, 3), (36, .iload_n 2, 1), (37, .invokestatic 44, 3), (40, .aload_n 0, 1), (41, .getfield 34, 3), (44, .aload_n 0, 1), (45, .getfield 24, 3), (48, .iload_n 3, 1), (49, .invokestatic 44, 3), (52, .aload_n 0, 1), (53, .getfield 37, 3), (56, .aload_n 0, 1), (57, .getfield 24, 3), (60, .iload 4, 2), (62, .invokestatic 44, 3), (65, .aload_n 0, 1), (66, .dup, 1), (67, .getfield 24, 3), (70, .iconst 1, 1), (71, .iadd, 1), (72, .putfield 24, 3), (75, .return_, 1)]
theorem tbX6_addKey : vm_chk cX6_addKey tlX6_addKey = true := by decide +kernel
theorem dX6_addKey_0 : vm_at cX6_addKey 0 (.aload_n 0) 1 1 ∧ ((0 : Fin 4) : Nat) = 0 := ⟨⟨vm_row tbX6_addKey 0 rfl, rfl⟩, rfl⟩
theorem dX6_addKey_1 : vm_at cX6_addKey 1 (.getfield 24) 3 4 := ⟨vm_row tbX6_addKey 1 rfl, rfl⟩
theorem dX6_addKey_4 : vm_br cX6_addKey 4 (.ifCond .lt 71) 3 7 (71) 75 := ⟨vm_row tbX6_addKey 2 rfl, rfl, rfl⟩
theorem dX6_addKey_7 : vm_at cX6_addKey 7 (.aload_n 0) 1 8 ∧ ((0 : Fin 4) : Nat) = 0 := ⟨⟨vm_row tbX6_addKey 3 rfl, rfl⟩, rfl⟩
theorem dX6_addKey_8 : vm_at cX6_addKey 8 (.getfield 24) 3 11 := ⟨vm_row tbX6_addKey 4 rfl, rfl⟩
theorem dX6_addKey_11 : vm_at cX6_addKey 11 (.bipush 9) 2 13 ∧ (Int8.ofInt (9)).toInt32 = (9 : Int32) := ⟨⟨vm_row tbX6_addKey 5 rfl, rfl⟩, z_bipush_9⟩
theorem dX6_addKey_13 : vm_br cX6_addKey 13 (.if_icmp .ge 62) 3 16 (62) 75 := ⟨vm_row tbX6_addKey 6 rfl, rfl, rfl⟩
theorem dX6_addKey_16 : vm_at cX6_addKey 16 (.aload_n 0) 1 17 ∧ ((0 : Fin 4) : Nat) = 0 := ⟨⟨vm_row tbX6_addKey 7 rfl, rfl⟩, rfl⟩
theorem dX6_addKey_17 : vm_at cX6_addKey 17 (.getfield 27) 3 20 := ⟨vm_row tbX6_addKey 8 rfl, rfl⟩
theorem dX6_addKey_20 : vm_at cX6_addKey 20 (.aload_n 0) 1 21 ∧ ((0 : Fin 4) : Nat) = 0 := ⟨⟨vm_row tbX6_addKey 9 rfl, rfl⟩, rfl⟩
theorem dX6_addKey_21 : vm_at cX6_addKey 21 (.getfield 24) 3 24 := ⟨vm_row tbX6_addKey 10 rfl, rfl⟩
theorem dX6_addKey_24 : vm_at cX6_addKey 24 (.iload_n 1) 1 25 ∧ ((1 : Fin 4) : Nat) = 1 := ⟨⟨vm_row tbX6_addKey 11 rfl, rfl⟩, rfl⟩
theorem dX6_addKey_25 : vm_at cX6_addKey 25 (.invokestatic 44) 3 28 := ⟨vm_row tbX6_addKey 12 rfl, rfl⟩
theorem dX6_addKey_28 : vm_at cX6_addKey 28 (.aload_n 0) 1 29 ∧ ((0 : Fin 4) : Nat) = 0 := ⟨⟨vm_row tbX6_addKey 13 rfl, rfl⟩, rfl⟩
theorem dX6_addKey_29 : vm_at cX6_addKey 29 (.getfield 31) 3 32 := ⟨vm_row tbX6_addKey 14 rfl, rfl⟩
theorem dX6_addKey_32 : vm_at cX6_addKey 32 (.aload_n 0) 1 33 ∧ ((0 : Fin 4) : Nat) = 0 := ⟨⟨vm_row tbX6_addKey 15 rfl, rfl⟩, rfl⟩
theorem dX6_addKey_33 : vm_at cX6_addKey 33 (.getfield 24) 3 36 := ⟨vm_row tbX6_addKey 16 rfl, rfl⟩
theorem dX6_addKey_36 : vm_at cX6_addKey 36 (.iload_n 2) 1 37 ∧ ((2 : Fin 4) : Nat) = 2 := ⟨⟨vm_row tbX6_addKey 17 rfl, rfl⟩, rfl⟩
theorem dX6_addKey_37 : vm_at cX6_addKey 37 (.invokestatic 44) 3 40 := ⟨vm_row tbX6_addKey 18 rfl, rfl⟩
theorem dX6_addKey_40 : vm_at cX6_addKey 40 (.aload_n 0) 1 41 ∧ ((0 : Fin 4) : Nat) = 0 := ⟨⟨vm_row tbX6_addKey 19 rfl, rfl⟩, rfl⟩
theorem dX6_addKey_41 : vm_at cX6_addKey 41 (.getfield 34) 3 44 := ⟨vm_row tbX6_addKey 20 rfl, rfl⟩
theorem dX6_addKey_44 : vm_at cX6_addKey 44 (.aload_n 0) 1 45 ∧ ((0 : Fin 4) : Nat) = 0 := ⟨⟨vm_row tbX6_addKey 21 rfl, rfl⟩, rfl⟩
theorem dX6_addKey_45 : vm_at cX6_addKey 45 (.getfield 24) 3 48 := ⟨vm_row tbX6_addKey 22 rfl, rfl⟩
theorem dX6_addKey_48 : vm_at cX6_addKey 48 (.iload_n 3) 1 49 ∧ ((3 : Fin 4) : Nat) = 3 := ⟨⟨vm_row tbX6_addKey 23 rfl, rfl⟩, rfl⟩
theorem dX6_addKey_49 : vm_at cX6_addKey 49 (.invokestatic 44) 3 52 := ⟨vm_row tbX6_addKey 24 rfl, rfl⟩
theorem dX6_addKey_52 : vm_at cX6_addKey 52 (.aload_n 0) 1 53 ∧ ((0 : Fin 4) : Nat) = 0 := ⟨⟨vm_row tbX6_addKey 25 rfl, rfl⟩, rfl⟩
theorem dX6_addKey_53 : vm_at cX6_addKey 53 (.getfield 37) 3 56 := ⟨vm_row tbX6_addKey 26 rfl, rfl⟩
theorem dX6_addKey_56 : vm_at cX6_addKey 56 (.aload_n 0) 1 57 ∧ ((0 : Fin 4) : Nat) = 0 := ⟨⟨vm_row tbX6_addKey 27 rfl, rfl⟩, rfl⟩
theorem dX6_addKey_57 : vm_at cX6_addKey 57 (.getfield 24) 3 60 := ⟨vm_row tbX6_addKey 28 rfl, rfl⟩
theorem dX6_addKey_60 : vm_at cX6_addKey 60 (.iload 4) 2 62 := ⟨vm_row tbX6_addKey 29 rfl, rfl⟩
theorem dX6_addKey_62 : vm_at cX6_addKey 62 (.invokestatic 44) 3 65 := ⟨vm_row tbX6_addKey 30 rfl, rfl⟩
theorem dX6_addKey_65 : vm_at cX6_addKey 65 (.aload_n 0) 1 66 ∧ ((0 : Fin 4) : Nat) = 0 := ⟨⟨vm_row tbX6_addKey 31 rfl, rfl⟩, rfl⟩
theorem dX6_addKey_66 : vm_at cX6_addKey 66 (.dup) 1 67 := ⟨vm_row tbX6_addKey 32 rfl, rfl⟩
theorem dX6_addKey_67 : vm_at cX6_addKey 67 (.getfield 24) 3 70 := ⟨vm_row tbX6_addKey 33 rfl, rfl⟩
theorem dX6_addKey_70 : vm_at cX6_addKey 70 (.iconst 1) 1 71 ∧ Int32.ofInt (1) = (1 : Int32) := ⟨⟨vm_row tbX6_addKey 34 rfl, rfl⟩, z_iconst_1⟩
theorem dX6_addKey_71 : vm_at cX6_addKey 71 (.iadd) 1 72 := ⟨vm_row tbX6_addKey 35 rfl, rfl⟩
theorem dX6_addKey_72 : vm_at cX6_addKey 72 (.putfield 24) 3 75 := ⟨vm_row tbX6_addKey 36 rfl, rfl⟩
theorem dX6_addKey_75 : vm_at cX6_addKey 75 (.return_) 1 76 := ⟨vm_row tbX6_addKey 37 rfl, rfl⟩
def tlX6_dropKey : List (Nat × Instr × Nat) := [(0, .aload_n 0, 1), (1, .getfield 24, 3), (4, .ifCond .le 13, 3), (7, .aload_n 0, 1), (8, .dup, 1), (9, .getfield 24, 3), (12, .iconst 1, 1), (13, .isub, 1), (14, .putfield 24, 3), (17, .return_, 1)]
theorem tbX6_dropKey : vm_chk cX6_dropKey tlX6_dropKey = true := by decide +kernel
theorem dX6_dropKey_0 : vm_at cX6_dropKey 0 (.aload_n 0) 1 1 ∧ ((0 : Fin 4) : Nat) = 0 := ⟨⟨vm_row tbX6_dropKey 0 rfl, rfl⟩, rfl⟩
theorem dX6_dropKey_1 : vm_at cX6_dropKey 1 (.getfield 24) 3 4 := ⟨vm_row tbX6_dropKey 1 rfl, rfl⟩
theorem dX6_dropKey_4 : vm_br cX6_dropKey 4 (.ifCond .le 13) 3 7 (13) 17 := ⟨vm_row tbX6_dropKey 2 rfl, rfl, rfl⟩
theorem dX6_dropKey_7 : vm_at cX6_dropKey 7 (.aload_n 0) 1 8 ∧ ((0 : Fin 4) : Nat) = 0 := ⟨⟨vm_row tbX6_dropKey 3 rfl, rfl⟩, rfl⟩
theorem dX6_dropKey_8 : vm_at cX6_dropKey 8 (.dup) 1 9 := ⟨vm_row tbX6_dropKey 4 rfl, rfl⟩
theorem dX6_dropKey_9 : vm_at cX6_dropKey 9 (.getfield 24) 3 12 := ⟨vm_row tbX6_dropKey 5 rfl, rfl⟩
theorem dX6_dropKey_12 : vm_at cX6_dropKey 12 (.iconst 1) 1 13 ∧ Int32.ofInt (1) = (1 : Int32) := ⟨⟨vm_row tbX6_dropKey 6 rfl, rfl⟩, z_iconst_1⟩
theorem dX6_dropKey_13 : vm_at cX6_dropKey 13 (.isub) 1 14 := ⟨vm_row tbX6_dropKey 7 rfl, rfl⟩
theorem dX6_dropKey_14 : vm_at cX6_dropKey 14 (.putfield 24) 3 17 := ⟨vm_row tbX6_dropKey 8 rfl, rfl⟩
theorem dX6_dropKey_17 : vm_at cX6_dropKey 17 (.return_) 1 18 := ⟨vm_row tbX6_dropKey 9 rfl, rfl⟩
def tlX6_hasKey : List (Nat × Instr × Nat) := [(0, .iconst 0, 1), (1, .istore_n 3, 1), (2, .iload_n 3, 1), (3, .aload_n 0, 1), (4, .getfield 24, 3), (7, .if_icmp .ge 35, 3), (10, .aload_n 0, 1), (11, .getfield 27, 3), (14, .iload_n 3, 1), (15, .invokestatic 48, 3), (18, .iload_n 1, 1), (19, .if_icmp .ne 17, 3), (22, .aload_n 0, 1), (23, .getfield 34, 3), (26, .iload_n 3, 1), (27, .invokestatic 48, 3), (30, .iload_n 2, 1), (31, .if_icmp .ne 5, 3), (34, .iconst 1, 1), (35, .ireturn, 1), (36, .iinc 3 1, 3), (39, .goto (-37), 3), (42, .iconst 0, 1), (43, .ireturn, 1)]
theorem tbX6_hasKey : vm_chk cX6_hasKey tlX6_hasKey = true := by decide +kernel
theorem dX6_hasKey_0 : vm_at cX6_hasKey 0 (.iconst 0) 1 1 ∧ Int32.ofInt (0) = (0 : Int32) := ⟨⟨vm_row tbX6_hasKey 0 rfl, rfl⟩, z_iconst_0⟩
theorem dX6_hasKey_1 : vm_at cX6_hasKey 1 (.istore_n 3) 1 2 ∧ ((3 : Fin 4) : Nat) = 3 := ⟨⟨vm_row tbX6_hasKey 1 rfl, rfl⟩, rfl⟩
theorem dX6_hasKey_2 : vm_at cX6_hasKey 2 (.iload_n 3) 1 3 ∧ ((3 : Fin 4) : Nat) = 3 := ⟨⟨vm_row tbX6_hasKey 2 rfl, rfl⟩, rfl⟩
theorem dX6_hasKey_3 : vm_at cX6_hasKey 3 (.aload_n 0) 1 4 ∧ ((0 : Fin 4) : Nat) = 0 := ⟨⟨vm_row tbX6_hasKey 3 rfl, rfl⟩, rfl⟩
theorem dX6_hasKey_4 : vm_at cX6_hasKey 4 (.getfield 24) 3 7 := ⟨vm_row tbX6_hasKey 4 rfl, rfl⟩
theorem dX6_hasKey_7 : vm_br cX6_hasKey 7 (.if_icmp .ge 35) 3 10 (35) 42 := ⟨vm_row tbX6_hasKey 5 rfl, rfl, rfl⟩
theorem dX6_hasKey_10 : vm_at cX6_hasKey 10 (.aload_n 0) 1 11 ∧ ((0 : Fin 4) : Nat) = 0 := ⟨⟨vm_row tbX6_hasKey 6 rfl, rfl⟩, rfl⟩
theorem dX6_hasKey_11 : vm_at cX6_hasKey 11 (.getfield 27) 3 14 := ⟨vm_row tbX6_hasKey 7 rfl, rfl⟩
theorem dX6_hasKey_14 : vm_at cX6_hasKey 14 (.iload_n 3) 1 15 ∧ ((3 : Fin 4) : Nat) = 3 := ⟨⟨vm_row tbX6_hasKey 8 rfl, rfl⟩, rfl⟩
theorem dX6_hasKey_15 : vm_at cX6_hasKey 15 (.invokestatic 48) 3 18 := ⟨vm_row tbX6_hasKey 9 rfl, rfl⟩
theorem dX6_hasKey_18 : vm_at cX6_hasKey 18 (.iload_n 1) 1 19 ∧ ((1 : Fin 4) : Nat) = 1 := ⟨⟨vm_row tbX6_hasKey 10 rfl, rfl⟩, rfl⟩
theorem dX6_hasKey_19 : vm_br cX6_hasKey 19 (.if_icmp .ne 17) 3 22 (17) 36 := ⟨vm_row tbX6_hasKey 11 rfl, rfl, rfl⟩
theorem dX6_hasKey_22 : vm_at cX6_hasKey 22 (.aload_n 0) 1 23 ∧ ((0 : Fin 4) : Nat) = 0 := ⟨⟨vm_row tbX6_hasKey 12 rfl, rfl⟩, rfl⟩
theorem dX6_hasKey_23 : vm_at cX6_hasKey 23 (.getfield 34) 3 26 := ⟨vm_row tbX6_hasKey 13 rfl, rfl⟩
theorem dX6_hasKey_26 : vm_at cX6_hasKey 26 (.iload_n 3) 1 27 ∧ ((3 : Fin 4) : Nat) = 3 := ⟨⟨vm_row tbX6_hasKey 14 rfl, rfl⟩, rfl⟩
theorem dX6_hasKey_27 : vm_at cX6_hasKey 27 (.invokestatic 48) 3 30 := ⟨vm_row tbX6_hasKey 15 rfl, rfl⟩
theorem dX6_hasKey_30 : vm_at cX6_hasKey 30 (.iload_n 2) 1 31 ∧ ((2 : Fin 4) : Nat) = 2 := ⟨⟨vm_row tbX6_hasKey 16 rfl, rfl⟩, rfl⟩
theorem dX6_hasKey_31 : vm_br cX6_hasKey 31 (.if_icmp .ne 5) 3 34 (5) 36 := ⟨vm_row tbX6_hasKey 17 rfl, rfl, rfl⟩
theorem dX6_hasKey_34 : vm_at cX6_hasKey 34 (.iconst 1) 1 35 ∧ Int32.ofInt (1) = (1 : Int32) := ⟨⟨vm_row tbX6_hasKey 18 rfl, rfl⟩, z_iconst_1⟩
theorem dX6_hasKey_35 : vm_at cX6_hasKey 35 (.ireturn) 1 36 := ⟨vm_row tbX6_hasKey 19 rfl, rfl⟩
theorem dX6_hasKey_36 : vm_at cX6_hasKey 36 (.iinc 3 1) 3 39 ∧ Int32.ofInt (1) = (1 : Int32) := ⟨⟨vm_row tbX6_hasKey 20 rfl, rfl⟩, z_iconst_1⟩
theorem dX6_hasKey_39 : vm_br cX6_hasKey 39 (.goto (-37)) 3 42 (-37) 2 := ⟨vm_row tbX6_hasKey 21 rfl, rfl, rfl⟩
theorem dX6_hasKey_42 : vm_at cX6_hasKey 42 (.iconst 0) 1 43 ∧ Int32.ofInt (0) = (0 : Int32) := ⟨⟨vm_row tbX6_hasKey 22 rfl, rfl⟩, z_iconst_0⟩
theorem dX6_hasKey_43 : vm_at cX6_hasKey 43 (.ireturn) 1 44 := ⟨vm_row tbX6_hasKey 23 rfl, rfl⟩
def tlX6_afterStroke : List (Nat × Instr × Nat) := [(0, .iload_n 2, 1), (1, .ifCond .lt 17, 3), (4, .iload_n 2, 1), (5, .aload_n 0, 1), (6, .getfield 24, 3), (9, .if_icmp .ge 9, 3), (12, .iload_n 2, 1), (13, .bipush 9, 2), (15, .if_icmp .lt 5, 3), (18, .iload_n 1, 1), (19, .ireturn, 1), (20, .aload_n 0, 1), (21, .getfield 27, 3), (24, .iload_n 2, 1), (25, .iaload, 1), (26, .tableswitch 151 0 7 #[46, 58, 58, 58, 70, 101, 103, 129], 46), (72, .aload_n 0, 1), (73, .iload_n 1, 1), (74, .aload_n 0, 1), (75, .getfield 34, 3), (78, .iload_n 2, 1), (79, .iaload, 1), (80, .invokevirtual 52, 3), (83, .ireturn, 1), (84, .aload_n 0, 1), (85, .iload_n 1, 1), (86, .aload_n 0, 1), (87, .getfield 27, 3), (90, .iload_n 2, 1), (91, .iaload, 1), (92, .invokevirtual 56, 3), (95, .ireturn, 1), (96, .iload_n 1, 1), (97, .invokestatic 59, 3), (100, .ifCond .ne 10, 3), (103, .iload_n 1, 1), (104, .invokestatic 63, 3), (107, .goto 19, 3), (110, .aload_n 0, 1), (111, .iload_n 1, 1), (112, .invokestatic 66, 3), (115, .iload_n 1, 1), (116, .invokestatic 59, 3), (119, .iload_n 1, 1), (120, .invokestatic 63, 3), (123, .invokevirtual 69, 3), (126, .ireturn, 1), (127, .iconst 0, 1), (128, .ireturn, 1), (129, .iload_n 1, 1), (130, .ldc 73, 2), (132, .iand, 1), (133, .aload_n 0, 1), (134, .iload_n 1, 1), (135, .invokestatic 63, 3), (138, .aload_n 0, 1), (139, .getfield 37, 3), (142, .iload_n 2, 1), (143, .iaload, 1), (144, .aload_n 0, 1), (145, .getfield 34, 3), (148, .iload_n 2, 1), (149, .iaload, 1), (150, .invokevirtual 69, 3), (153, .ior, 1), (154, .ireturn, 1), (155, .aload_n 0, 1), (156, .aload_n 0, 1), (157, .iload_n 1, 1), (158, .aload_n 0, 1), (159, .getfield 34, 3), (162, .iload_n 2, 1), (163, .iaload, 1), (164, .invokevirtual 52, 3), (167, .aload_n 0, 1), (168, .getfield 37, 3), (171, .iload_n 2, 1), (172, .iaload, 1), (173, .invokevirtual 52, 3), (176, .ireturn, 1), (177, .iload_n 1, 1), (178, .ireturn, 1)]
theorem tbX6_afterStroke : vm_chk cX6_afterStroke tlX6_afterStroke = true := by decide +kernel
theorem dX6_afterStroke_0 : vm_at cX6_afterStroke 0 (.iload_n 2) 1 1 ∧ ((2 : Fin 4) : Nat) = 2 := ⟨⟨vm_row tbX6_afterStroke 0 rfl, rfl⟩, rfl⟩
theorem dX6_afterStroke_1 : vm_br cX6_afterStroke 1 (.ifCond .lt 17) 3 4 (17) 18 := ⟨vm_row tbX6_afterStroke 1 rfl, rfl, rfl⟩
theorem dX6_afterStroke_4 : vm_at cX6_afterStroke 4 (.iload_n 2) 1 5 ∧ ((2 : Fin 4) : Nat) = 2 := ⟨⟨vm_row tbX6_afterStroke 2 rfl, rfl⟩, rfl⟩
theorem dX6_afterStroke_5 : vm_at cX6_afterStroke 5 (.aload_n 0) 1 6 ∧ ((0 : Fin 4) : Nat) = 0 := ⟨⟨vm_row tbX6_afterStroke 3 rfl, rfl⟩, rfl⟩
theorem dX6_afterStroke_6 : vm_at cX6_afterStroke 6 (.getfield 24) 3 9 := ⟨vm_row tbX6_afterStroke 4 rfl, rfl⟩
theorem dX6_afterStroke_9 : vm_br cX6_afterStroke 9 (.if_icmp .ge 9) 3 12 (9) 18 := ⟨vm_row tbX6_afterStroke 5 rfl, rfl, rfl⟩
theorem dX6_afterStroke_12 : vm_at cX6_afterStroke 12 (.iload_n 2) 1 13 ∧ ((2 : Fin 4) : Nat) = 2 := ⟨⟨vm_row tbX6_afterStroke 6 rfl, rfl⟩, rfl⟩
theorem dX6_afterStroke_13 : vm_at cX6_afterStroke 13 (.bipush 9) 2 15 ∧ (Int8.ofInt (9)).toInt32 = (9 : Int32) := ⟨⟨vm_row tbX6_afterStroke 7 rfl, rfl⟩, z_bipush_9⟩
theorem dX6_afterStroke_15 : vm_br cX6_afterStroke 15 (.if_icmp .lt 5) 3 18 (5) 20 := ⟨vm_row tbX6_afterStroke 8 rfl, rfl, rfl⟩
theorem dX6_afterStroke_18 : vm_at cX6_afterStroke 18 (.iload_n 1) 1 19 ∧ ((1 : Fin 4) : Nat) = 1 := ⟨⟨vm_row tbX6_afterStroke 9 rfl, rfl⟩, rfl⟩
theorem dX6_afterStroke_19 : vm_at cX6_afterStroke 19 (.ireturn) 1 20 := ⟨vm_row tbX6_afterStroke 10 rfl, rfl⟩
theorem dX6_afterStroke_20 : vm_at cX6_afterStroke 20 (.aload_n 0) 1 21 ∧ ((0 : Fin 4) : Nat) = 0 := ⟨⟨vm_row tbX6_afterStroke 11 rfl, rfl⟩, rfl⟩
theorem dX6_afterStroke_21 : vm_at cX6_afterStroke 21 (.getfield 27) 3 24 := ⟨vm_row tbX6_afterStroke 12 rfl, rfl⟩
theorem dX6_afterStroke_24 : vm_at cX6_afterStroke 24 (.iload_n 2) 1 25 ∧ ((2 : Fin 4) : Nat) = 2 := ⟨⟨vm_row tbX6_afterStroke 13 rfl, rfl⟩, rfl⟩
theorem dX6_afterStroke_25 : vm_at cX6_afterStroke 25 (.iaload) 1 26 := ⟨vm_row tbX6_afterStroke 14 rfl, rfl⟩
theorem dX6_afterStroke_26 : decode cX6_afterStroke 26 = .ok (.tableswitch 151 0 7 #[46, 58, 58, 58, 70, 101, 103, 129], 46) := vm_row tbX6_afterStroke 15 rfl
theorem dX6_afterStroke_72 : vm_at cX6_afterStroke 72 (.aload_n 0) 1 73 ∧ ((0 : Fin 4) : Nat) = 0 := ⟨⟨vm_row tbX6_afterStroke 16 rfl, rfl⟩, rfl⟩
theorem dX6_afterStroke_73 : vm_at cX6_afterStroke 73 (.iload_n 1) 1 74 ∧ ((1 : Fin 4) : Nat) = 1 := ⟨⟨vm_row tbX6_afterStroke 17 rfl, rfl⟩, rfl⟩
theorem dX6_afterStroke_74 : vm_at cX6_afterStroke 74 (.aload_n 0) 1 75 ∧ ((0 : Fin 4) : Nat) = 0 := ⟨⟨vm_row tbX6_afterStroke 18 rfl, rfl⟩, rfl⟩
theorem dX6_afterStroke_75 : vm_at cX6_afterStroke 75 (.getfield 34) 3 78 := ⟨vm_row tbX6_afterStroke 19 rfl, rfl⟩
theorem dX6_afterStroke_78 : vm_at cX6_afterStroke 78 (.iload_n 2) 1 79 ∧ ((2 : Fin 4) : Nat) = 2 := ⟨⟨vm_row tbX6_afterStroke 20 rfl, rfl⟩, rfl⟩
theorem dX6_afterStroke_79 : vm_at cX6_afterStroke 79 (.iaload) 1 80 := ⟨vm_row tbX6_afterStroke 21 rfl, rfl⟩
theorem dX6_afterStroke_80 : vm_at cX6_afterStroke 80 (.invokevirtual 52) 3 83 := ⟨vm_row tbX6_afterStroke 22 rfl, rfl⟩
theorem dX6_afterStroke_83 : vm_at cX6_afterStroke 83 (.ireturn) 1 84 := ⟨vm_row tbX6_afterStroke 23 rfl, rfl⟩
theorem dX6_afterStroke_84 : vm_at cX6_afterStroke 84 (.aload_n 0) 1 85 ∧ ((0 : Fin 4) : Nat) = 0 := ⟨⟨vm_row tbX6_afterStroke 24 rfl, rfl⟩, rfl⟩
theorem dX6_afterStroke_85 : vm_at cX6_afterStroke 85 (.iload_n 1) 1 86 ∧ ((1 : Fin 4) : Nat) = 1 := ⟨⟨vm_row tbX6_afterStroke 25 rfl, rfl⟩, rfl⟩
theorem dX6_afterStroke_86 : vm_at cX6_afterStroke 86 (.aload_n 0) 1 87 ∧ ((0 : Fin 4) : Nat) = 0 := ⟨⟨vm_row tbX6_afterStroke 26 rfl, rfl⟩, rfl⟩
theorem dX6_afterStroke_87 : vm_at cX6_afterStroke 87 (.getfield 27) 3 90 := ⟨vm_row tbX6_afterStroke 27 rfl, rfl⟩
theorem dX6_afterStroke_90 : vm_at cX6_afterStroke 90 (.iload_n 2) 1 91 ∧ ((2 : Fin 4) : Nat) = 2 := ⟨⟨vm_row tbX6_afterStroke 28 rfl, rfl⟩, rfl⟩
theorem dX6_afterStroke_91 : vm_at cX6_afterStroke 91 (.iaload) 1 92 := ⟨vm_row tbX6_afterStroke 29 rfl, rfl⟩
theorem dX6_afterStroke_92 : vm_at cX6_afterStroke 92 (.invokevirtual 56) 3 95 := ⟨vm_row tbX6_afterStroke 30 rfl, rfl⟩
theorem dX6_afterStroke_95 : vm_at cX6_afterStroke 95 (.ireturn) 1 96 := ⟨vm_row tbX6_afterStroke 31 rfl, rfl⟩
theorem dX6_afterStroke_96 : vm_at cX6_afterStroke 96 (.iload_n 1) 1 97 ∧ ((1 : Fin 4) : Nat) = 1 := ⟨⟨vm_row tbX6_afterStroke 32 rfl, rfl⟩, rfl⟩
theorem dX6_afterStroke_97 : vm_at cX6_afterStroke 97 (.invokestatic 59) 3 100 := ⟨vm_row tbX6_afterStroke 33 rfl, rfl⟩
theorem dX6_afterStroke_100 : vm_br cX6_afterStroke 100 (.ifCond .ne 10) 3 103 (10) 110 := ⟨vm_row tbX6_afterStroke 34 rfl, rfl, rfl⟩
theorem dX6_afterStroke_103 : vm_at cX6_afterStroke 103 (.iload_n 1) 1 104 ∧ ((1 : Fin 4) : Nat) = 1 := ⟨⟨vm_row tbX6_afterStroke 35 rfl, rfl⟩, rfl⟩
theorem dX6_afterStroke_104 : vm_at cX6_afterStroke 104 (.invokestatic 63) 3 107 := ⟨vm_row tbX6_afterStroke 36 rfl, rfl⟩
theorem dX6_afterStroke_107 : vm_br cX6_afterStroke 107 (.goto 19) 3 110 (19) 126 := ⟨vm_row tbX6_afterStroke 37 rfl, rfl, rfl⟩
theorem dX6_afterStroke_110 : vm_at cX6_afterStroke 110 (.aload_n 0) 1 111 ∧ ((0 : Fin 4) : Nat) = 0 := ⟨⟨vm_row tbX6_afterStroke 38 rfl, rfl⟩, rfl⟩
theorem dX6_afterStroke_111 : vm_at cX6_afterStroke 111 (.iload_n 1) 1 112 ∧ ((1 : Fin 4) : Nat) = 1 := ⟨⟨vm_row tbX6_afterStroke 39 rfl, rfl⟩, rfl⟩
theorem dX6_afterStroke_112 : vm_at cX6_afterStroke 112 (.invokestatic 66) 3 115 := ⟨vm_row tbX6_afterStroke 40 rfl, rfl⟩
theorem dX6_afterStroke_115 : vm_at cX6_afterStroke 115 (.iload_n 1) 1 116 ∧ ((1 : Fin 4) : Nat) = 1 := ⟨⟨vm_row tbX6_afterStroke 41 rfl, rfl⟩, rfl⟩
theorem dX6_afterStroke_116 : vm_at cX6_afterStroke 116 (.invokestatic 59) 3 119 := ⟨vm_row tbX6_afterStroke 42 rfl, rfl⟩
theorem dX6_afterStroke_119 : vm_at cX6_afterStroke 119 (.iload_n 1) 1 120 ∧ ((1 : Fin 4) : Nat) = 1 := ⟨⟨vm_row tbX6_afterStroke 43 rfl, rfl⟩, rfl⟩
theorem dX6_afterStroke_120 : vm_at cX6_afterStroke 120 (.invokestatic 63) 3 123 := ⟨vm_row tbX6_afterStroke 44 rfl, rfl⟩
theorem dX6_afterStroke_123 : vm_at cX6_afterStroke 123 (.invokevirtual 69) 3 126 := ⟨vm_row tbX6_afterStroke 45 rfl, rfl⟩
theorem dX6_afterStroke_126 : vm_at cX6_afterStroke 126 (.ireturn) 1 127 := ⟨vm_row tbX6_afterStroke 46 rfl, rfl⟩
theorem dX6_afterStroke_127 : vm_at cX6_afterStroke 127 (.iconst 0) 1 128 ∧ Int32.ofInt (0) = (0 : Int32) := ⟨⟨vm_row tbX6_afterStroke 47 rfl, rfl⟩, z_iconst_0⟩
theorem dX6_afterStroke_128 : vm_at cX6_afterStroke 128 (.ireturn) 1 129 := ⟨vm_row tbX6_afterStroke 48 rfl, rfl⟩
theorem dX6_afterStroke_129 : vm_at cX6_afterStroke 129 (.iload_n 1) 1 130 ∧ ((1 : Fin 4) : Nat) = 1 := ⟨⟨vm_row tbX6_afterStroke 49 rfl, rfl⟩, rfl⟩
theorem dX6_afterStroke_130 : vm_at cX6_afterStroke 130 (.ldc 73) 2 132 := ⟨vm_row tbX6_afterStroke 50 rfl, rfl⟩
theorem dX6_afterStroke_132 : vm_at cX6_afterStroke 132 (.iand) 1 133 := ⟨vm_row tbX6_afterStroke 51 rfl, rfl⟩
theorem dX6_afterStroke_133 : vm_at cX6_afterStroke 133 (.aload_n 0) 1 134 ∧ ((0 : Fin 4) : Nat) = 0 := ⟨⟨vm_row tbX6_afterStroke 52 rfl, rfl⟩, rfl⟩
theorem dX6_afterStroke_134 : vm_at cX6_afterStroke 134 (.iload_n 1) 1 135 ∧ ((1 : Fin 4) : Nat) = 1 := ⟨⟨vm_row tbX6_afterStroke 53 rfl, rfl⟩, rfl⟩
theorem dX6_afterStroke_135 : vm_at cX6_afterStroke 135 (.invokestatic 63) 3 138 := ⟨vm_row tbX6_afterStroke 54 rfl, rfl⟩
theorem dX6_afterStroke_138 : vm_at cX6_afterStroke 138 (.aload_n 0) 1 139 ∧ ((0 : Fin 4) : Nat) = 0 := ⟨⟨vm_row tbX6_afterStroke 55 rfl, rfl⟩, rfl⟩
theorem dX6_afterStroke_139 : vm_at cX6_afterStroke 139 (.getfield 37) 3 142 := ⟨vm_row tbX6_afterStroke 56 rfl, rfl⟩
theorem dX6_afterStroke_142 : vm_at cX6_afterStroke 142 (.iload_n 2) 1 143 ∧ ((2 : Fin 4) : Nat) = 2 := ⟨⟨vm_row tbX6_afterStroke 57 rfl, rfl⟩, rfl⟩
theorem dX6_afterStroke_143 : vm_at cX6_afterStroke 143 (.iaload) 1 144 := ⟨vm_row tbX6_afterStroke 58 rfl, rfl⟩
theorem dX6_afterStroke_144 : vm_at cX6_afterStroke 144 (.aload_n 0) 1 145 ∧ ((0 : Fin 4) : Nat) = 0 := ⟨⟨vm_row tbX6_afterStroke 59 rfl, rfl⟩, rfl⟩
theorem dX6_afterStroke_145 : vm_at cX6_afterStroke 145 (.getfield 34) 3 148 := ⟨vm_row tbX6_afterStroke 60 rfl, rfl⟩
theorem dX6_afterStroke_148 : vm_at cX6_afterStroke 148 (.iload_n 2) 1 149 ∧ ((2 : Fin 4) : Nat) = 2 := ⟨⟨vm_row tbX6_afterStroke 61 rfl, rfl⟩, rfl⟩
theorem dX6_afterStroke_149 : vm_at cX6_afterStroke 149 (.iaload) 1 150 := ⟨vm_row tbX6_afterStroke 62 rfl, rfl⟩
theorem dX6_afterStroke_150 : vm_at cX6_afterStroke 150 (.invokevirtual 69) 3 153 := ⟨vm_row tbX6_afterStroke 63 rfl, rfl⟩
theorem dX6_afterStroke_153 : vm_at cX6_afterStroke 153 (.ior) 1 154 := ⟨vm_row tbX6_afterStroke 64 rfl, rfl⟩
theorem dX6_afterStroke_154 : vm_at cX6_afterStroke 154 (.ireturn) 1 155 := ⟨vm_row tbX6_afterStroke 65 rfl, rfl⟩
theorem dX6_afterStroke_155 : vm_at cX6_afterStroke 155 (.aload_n 0) 1 156 ∧ ((0 : Fin 4) : Nat) = 0 := ⟨⟨vm_row tbX6_afterStroke 66 rfl, rfl⟩, rfl⟩
theorem dX6_afterStroke_156 : vm_at cX6_afterStroke 156 (.aload_n 0) 1 157 ∧ ((0 : Fin 4) : Nat) = 0 := ⟨⟨vm_row tbX6_afterStroke 67 rfl, rfl⟩, rfl⟩
theorem dX6_afterStroke_157 : vm_at cX6_afterStroke 157 (.iload_n 1) 1 158 ∧ ((1 : Fin 4) : Nat) = 1 := ⟨⟨vm_row tbX6_afterStroke 68 rfl, rfl⟩, rfl⟩
theorem dX6_afterStroke_158 : vm_at cX6_afterStroke 158 (.aload_n 0) 1 159 ∧ ((0 : Fin 4) : Nat) = 0 := ⟨⟨vm_row tbX6_afterStroke 69 rfl, rfl⟩, rfl⟩
theorem dX6_afterStroke_159 : vm_at cX6_afterStroke 159 (.getfield 34) 3 162 := ⟨vm_row tbX6_afterStroke 70 rfl, rfl⟩
theorem dX6_afterStroke_162 : vm_at cX6_afterStroke 162 (.iload_n 2) 1 163 ∧ ((2 : Fin 4) : Nat) = 2 := ⟨⟨vm_row tbX6_afterStroke 71 rfl, rfl⟩, rfl⟩
theorem dX6_afterStroke_163 : vm_at cX6_afterStroke 163 (.iaload) 1 164 := ⟨vm_row tbX6_afterStroke 72 rfl, rfl⟩
theorem dX6_afterStroke_164 : vm_at cX6_afterStroke 164 (.invokevirtual 52) 3 167 := ⟨vm_row tbX6_afterStroke 73 rfl, rfl⟩
theorem dX6_afterStroke_167 : vm_at cX6_afterStroke 167 (.aload_n 0) 1 168 ∧ ((0 : Fin 4) : Nat) = 0 := ⟨⟨vm_row tbX6_afterStroke 74 rfl, rfl⟩, rfl⟩
theorem dX6_afterStroke_168 : vm_at cX6_afterStroke 168 (.getfield 37) 3 171 := ⟨vm_row tbX6_afterStroke 75 rfl, rfl⟩
theorem dX6_afterStroke_171 : vm_at cX6_afterStroke 171 (.iload_n 2) 1 172 ∧ ((2 : Fin 4) : Nat) = 2 := ⟨⟨vm_row tbX6_afterStroke 76 rfl, rfl⟩, rfl⟩
theorem dX6_afterStroke_172 : vm_at cX6_afterStroke 172 (.iaload) 1 173 := ⟨vm_row tbX6_afterStroke 77 rfl, rfl⟩
theorem dX6_afterStroke_173 : vm_at cX6_afterStroke 173 (.invokevirtual 52) 3 176 := ⟨vm_row tbX6_afterStroke 78 rfl, rfl⟩
theorem dX6_afterStroke_176 : vm_at cX6_afterStroke 176 (.ireturn) 1 177 := ⟨vm_row tbX6_afterStroke 79 rfl, rfl⟩
theorem dX6_afterStroke_177 : vm_at cX6_afterStroke 177 (.iload_n 1) 1 178 ∧ ((1 : Fin 4) : Nat) = 1 := ⟨⟨vm_row tbX6_afterStroke 80 rfl, rfl⟩, rfl⟩
theorem dX6_afterStroke_178 : vm_at cX6_afterStroke 178 (.ireturn) 1 179 := ⟨vm_row tbX6_afterStroke 81 rfl, rfl⟩
def tlX6_afterFigure : List (Nat × Instr × Nat) := [(0, .iload_n 2, 1), (1, .istore_n 3, 1), (2, .iload_n 1, 1), (3, .invokestatic 74, 3), (6, .ifCond .eq 52, 3), (9, .iload_n 1, 1), (10, .invokestatic 63, 3), (13, .aload_n 0, 1), (14, .getfield 15, 3), (17, .imul, 1), (18, .iload_n 2, 1), (19, .iadd, 1), (20, .istore_n 3, 1), (21, .iload_n 3, 1), (22, .aload_n 0, 1), (23, .getfield 21, 3), (26, .if_icmp .lt 32, 3), (29, .aload_n 0, 1), (30, .getfield 21, 3), (33, .ifCond .le 25, 3), (36, .aload_n 0, 1), (37, .getfield 9, 3), (40, .iconst 1, 1), (41, .if_icmp .ne 10, 3), (44, .iload_n 1, 1), (45, .invokestatic 63, 3), (48, .goto 9, 3), (51, .iload_n 3, 1), (52, .aload_n 0, 1), (53, .getfield 21, 3), (56, .irem, 1), (57, .istore_n 3, 1), (58, .iload_n 1, 1), (59, .bipush (-128), 2), (61, .iand, 1), (62, .ldc 78, 2), (64, .ior, 1), (65, .iload_n 3, 1), (66, .ior, 1), (67, .ireturn, 1)]
theorem tbX6_afterFigure : vm_chk cX6_afterFigure tlX6_afterFigure = true := by decide +kernel
theorem dX6_afterFigure_0 : vm_at cX6_afterFigure 0 (.iload_n 2) 1 1 ∧ ((2 : Fin 4) : Nat) = 2 := ⟨⟨vm_row tbX6_afterFigure 0 rfl, rfl⟩, rfl⟩
theorem dX6_afterFigure_1 : vm_at cX6_afterFigure 1 (.istore_n 3) 1 2 ∧ ((3 : Fin 4) : Nat) = 3 := ⟨⟨vm_row tbX6_afterFigure 1 rfl, rfl⟩, rfl⟩
theorem dX6_afterFigure_2 : vm_at cX6_afterFigure 2 (.iload_n 1) 1 3 ∧ ((1 : Fin 4) : Nat) = 1 := ⟨⟨vm_row tbX6_afterFigure 2 rfl, rfl⟩, rfl⟩
theorem dX6_afterFigure_3 : vm_at cX6_afterFigure 3 (.invokestatic 74) 3 6 := ⟨vm_row tbX6_afterFigure 3 rfl, rfl⟩
theorem dX6_afterFigure_6 : vm_br cX6_afterFigure 6 (.ifCond .eq 52) 3 9 (52) 58 := ⟨vm_row tbX6_afterFigure 4 rfl, rfl, rfl⟩
theorem dX6_afterFigure_9 : vm_at cX6_afterFigure 9 (.iload_n 1) 1 10 ∧ ((1 : Fin 4) : Nat) = 1 := ⟨⟨vm_row tbX6_afterFigure 5 rfl, rfl⟩, rfl⟩
theorem dX6_afterFigure_10 : vm_at cX6_afterFigure 10 (.invokestatic 63) 3 13 := ⟨vm_row tbX6_afterFigure 6 rfl, rfl⟩
theorem dX6_afterFigure_13 : vm_at cX6_afterFigure 13 (.aload_n 0) 1 14 ∧ ((0 : Fin 4) : Nat) = 0 := ⟨⟨vm_row tbX6_afterFigure 7 rfl, rfl⟩, rfl⟩
theorem dX6_afterFigure_14 : vm_at cX6_afterFigure 14 (.getfield 15) 3 17 := ⟨vm_row tbX6_afterFigure 8 rfl, rfl⟩
theorem dX6_afterFigure_17 : vm_at cX6_afterFigure 17 (.imul) 1 18 := ⟨vm_row tbX6_afterFigure 9 rfl, rfl⟩
theorem dX6_afterFigure_18 : vm_at cX6_afterFigure 18 (.iload_n 2) 1 19 ∧ ((2 : Fin 4) : Nat) = 2 := ⟨⟨vm_row tbX6_afterFigure 10 rfl, rfl⟩, rfl⟩
theorem dX6_afterFigure_19 : vm_at cX6_afterFigure 19 (.iadd) 1 20 := ⟨vm_row tbX6_afterFigure 11 rfl, rfl⟩
theorem dX6_afterFigure_20 : vm_at cX6_afterFigure 20 (.istore_n 3) 1 21 ∧ ((3 : Fin 4) : Nat) = 3 := ⟨⟨vm_row tbX6_afterFigure 12 rfl, rfl⟩, rfl⟩
theorem dX6_afterFigure_21 : vm_at cX6_afterFigure 21 (.iload_n 3) 1 22 ∧ ((3 : Fin 4) : Nat) = 3 := ⟨⟨vm_row tbX6_afterFigure 13 rfl, rfl⟩, rfl⟩
theorem dX6_afterFigure_22 : vm_at cX6_afterFigure 22 (.aload_n 0) 1 23 ∧ ((0 : Fin 4) : Nat) = 0 := ⟨⟨vm_row tbX6_afterFigure 14 rfl, rfl⟩, rfl⟩
theorem dX6_afterFigure_23 : vm_at cX6_afterFigure 23 (.getfield 21) 3 26 := ⟨vm_row tbX6_afterFigure 15 rfl, rfl⟩
theorem dX6_afterFigure_26 : vm_br cX6_afterFigure 26 (.if_icmp .lt 32) 3 29 (32) 58 := ⟨vm_row tbX6_afterFigure 16 rfl, rfl, rfl⟩
theorem dX6_afterFigure_29 : vm_at cX6_afterFigure 29 (.aload_n 0) 1 30 ∧ ((0 : Fin 4) : Nat) = 0 := ⟨⟨vm_row tbX6_afterFigure 17 rfl, rfl⟩, rfl⟩
theorem dX6_afterFigure_30 : vm_at cX6_afterFigure 30 (.getfield 21) 3 33 := ⟨vm_row tbX6_afterFigure 18 rfl, rfl⟩
theorem dX6_afterFigure_33 : vm_br cX6_afterFigure 33 (.ifCond .le 25) 3 36 (25) 58 := ⟨vm_row tbX6_afterFigure 19 rfl, rfl, rfl⟩
theorem dX6_afterFigure_36 : vm_at cX6_afterFigure 36 (.aload_n 0) 1 37 ∧ ((0 : Fin 4) : Nat) = 0 := ⟨⟨vm_row tbX6_afterFigure 20 rfl, rfl⟩, rfl⟩
theorem dX6_afterFigure_37 : vm_at cX6_afterFigure 37 (.getfield 9) 3 40 := ⟨vm_row tbX6_afterFigure 21 rfl, rfl⟩
theorem dX6_afterFigure_40 : vm_at cX6_afterFigure 40 (.iconst 1) 1 41 ∧ Int32.ofInt (1) = (1 : Int32) := ⟨⟨vm_row tbX6_afterFigure 22 rfl, rfl⟩, z_iconst_1⟩
theorem dX6_afterFigure_41 : vm_br cX6_afterFigure 41 (.if_icmp .ne 10) 3 44 (10) 51 := ⟨vm_row tbX6_afterFigure 23 rfl, rfl, rfl⟩
theorem dX6_afterFigure_44 : vm_at cX6_afterFigure 44 (.iload_n 1) 1 45 ∧ ((1 : Fin 4) : Nat) = 1 := ⟨⟨vm_row tbX6_afterFigure 24 rfl, rfl⟩, rfl⟩
theorem dX6_afterFigure_45 : vm_at cX6_afterFigure 45 (.invokestatic 63) 3 48 := ⟨vm_row tbX6_afterFigure 25 rfl, rfl⟩
theorem dX6_afterFigure_48 : vm_br cX6_afterFigure 48 (.goto 9) 3 51 (9) 57 := ⟨vm_row tbX6_afterFigure 26 rfl, rfl, rfl⟩
theorem dX6_afterFigure_51 : vm_at cX6_afterFigure 51 (.iload_n 3) 1 52 ∧ ((3 : Fin 4) : Nat) = 3 := ⟨⟨vm_row tbX6_afterFigure 27 rfl, rfl⟩, rfl⟩
theorem dX6_afterFigure_52 : vm_at cX6_afterFigure 52 (.aload_n 0) 1 53 ∧ ((0 : Fin 4) : Nat) = 0 := ⟨⟨vm_row tbX6_afterFigure 28 rfl, rfl⟩, rfl⟩
theorem dX6_afterFigure_53 : vm_at cX6_afterFigure 53 (.getfield 21) 3 56 := ⟨vm_row tbX6_afterFigure 29 rfl, rfl⟩
theorem dX6_afterFigure_56 : vm_at cX6_afterFigure 56 (.irem) 1 57 := ⟨vm_row tbX6_afterFigure 30 rfl, rfl⟩
theorem dX6_afterFigure_57 : vm_at cX6_afterFigure 57 (.istore_n 3) 1 58 ∧ ((3 : Fin 4) : Nat) = 3 := ⟨⟨vm_row tbX6_afterFigure 31 rfl, rfl⟩, rfl⟩
theorem dX6_afterFigure_58 : vm_at cX6_afterFigure 58 (.iload_n 1) 1 59 ∧ ((1 : Fin 4) : Nat) = 1 := ⟨⟨vm_row tbX6_afterFigure 32 rfl, rfl⟩, rfl⟩
theorem dX6_afterFigure_59 : vm_at cX6_afterFigure 59 (.bipush (-128)) 2 61 ∧ (Int8.ofInt (-128)).toInt32 = (-128 : Int32) := ⟨⟨vm_row tbX6_afterFigure 33 rfl, rfl⟩, z_bipush_m128⟩
theorem dX6_afterFigure_61 : vm_at cX6_afterFigure 61 (.iand) 1 62 := ⟨vm_row tbX6_afterFigure 34 rfl, rfl⟩
theorem dX6_afterFigure_62 : vm_at cX6_afterFigure 62 (.ldc 78) 2 64 := ⟨vm_row tbX6_afterFigure 35 rfl, rfl⟩
theorem dX6_afterFigure_64 : vm_at cX6_afterFigure 64 (.ior) 1 65 := ⟨vm_row tbX6_afterFigure 36 rfl, rfl⟩
theorem dX6_afterFigure_65 : vm_at cX6_afterFigure 65 (.iload_n 3) 1 66 ∧ ((3 : Fin 4) : Nat) = 3 := ⟨⟨vm_row tbX6_afterFigure 37 rfl, rfl⟩, rfl⟩
theorem dX6_afterFigure_66 : vm_at cX6_afterFigure 66 (.ior) 1 67 := ⟨vm_row tbX6_afterFigure 38 rfl, rfl⟩
theorem dX6_afterFigure_67 : vm_at cX6_afterFigure 67 (.ireturn) 1 68 := ⟨vm_row tbX6_afterFigure 39 rfl, rfl⟩
def tlX6_afterSign : List (Nat × Instr × Nat) := [(0, .iload_n 1, 1), (1, .invokestatic 63, 3), (4, .istore_n 3, 1), (5, .iload_n 1, 1), (6, .invokestatic 59, 3), (9, .ifCond .eq 24, 3), (12, .iload_n 1, 1), (13, .invokestatic 74, 3), (16, .ifCond .eq 17, 3), (19, .aload_n 0, 1), (20, .iload_n 1, 1), (21, .invokestatic 66, 3), (24, .iload_n 1, 1), (25, .invokestatic 59, 3), (28, .iload_n 3, 1), (29, .invokevirtual 69, 3), (32, .istore_n 3, 1), (33, .iload_n 2, 1), (34, .bipush 14, 2), (36, .ishl, 1), (37, .iload_n 3, 1), (38, .bipush 7, 2), (40, .ishl, 1), (41, .ior, 1), (42, .iload_n 3, 1), (43, .ior, 1), (44, .ireturn, 1)]
theorem tbX6_afterSign : vm_chk cX6_afterSign tlX6_afterSign = true := by decide +kernel
theorem dX6_afterSign_0 : vm_at cX6_afterSign 0 (.iload_n 1) 1 1 ∧ ((1 : Fin 4) : Nat) = 1 := ⟨⟨vm_row tbX6_afterSign 0 rfl, rfl⟩, rfl⟩
theorem dX6_afterSign_1 : vm_at cX6_afterSign 1 (.invokestatic 63) 3 4 := ⟨vm_row tbX6_afterSign 1 rfl, rfl⟩
theorem dX6_afterSign_4 : vm_at cX6_afterSign 4 (.istore_n 3) 1 5 ∧ ((3 : Fin 4) : Nat) = 3 := ⟨⟨vm_row tbX6_afterSign 2 rfl, rfl⟩, rfl⟩
theorem dX6_afterSign_5 : vm_at cX6_afterSign 5 (.iload_n 1) 1 6 ∧ ((1 : Fin 4) : Nat) = 1 := ⟨⟨vm_row tbX6_afterSign 3 rfl, rfl⟩, rfl⟩
theorem dX6_afterSign_6 : vm_at cX6_afterSign 6 (.invokestatic 59) 3 9 := ⟨vm_row tbX6_afterSign 4 rfl, rfl⟩
theorem dX6_afterSign_9 : vm_br cX6_afterSign 9 (.ifCond .eq 24) 3 12 (24) 33 := ⟨vm_row tbX6_afterSign 5 rfl, rfl, rfl⟩
theorem dX6_afterSign_12 : vm_at cX6_afterSign 12 (.iload_n 1) 1 13 ∧ ((1 : Fin 4) : Nat) = 1 := ⟨⟨vm_row tbX6_afterSign 6 rfl, rfl⟩, rfl⟩
theorem dX6_afterSign_13 : vm_at cX6_afterSign 13 (.invokestatic 74) 3 16 := ⟨vm_row tbX6_afterSign 7 rfl, rfl⟩
theorem dX6_afterSign_16 : vm_br cX6_afterSign 16 (.ifCond .eq 17) 3 19 (17) 33 := ⟨vm_row tbX6_afterSign 8 rfl, rfl, rfl⟩
theorem dX6_afterSign_19 : vm_at cX6_afterSign 19 (.aload_n 0) 1 20 ∧ ((0 : Fin 4) : Nat) = 0 := ⟨⟨vm_row tbX6_afterSign 9 rfl, rfl⟩, rfl⟩
theorem dX6_afterSign_20 : vm_at cX6_afterSign 20 (.iload_n 1) 1 21 ∧ ((1 : Fin 4) : Nat) = 1 := ⟨⟨vm_row tbX6_afterSign 10 rfl, rfl⟩, rfl⟩
theorem dX6_afterSign_21 : vm_at cX6_afterSign 21 (.invokestatic 66) 3 24 := ⟨vm_row tbX6_afterSign 11 rfl, rfl⟩
theorem dX6_afterSign_24 : vm_at cX6_afterSign 24 (.iload_n 1) 1 25 ∧ ((1 : Fin 4) : Nat) = 1 := ⟨⟨vm_row tbX6_afterSign 12 rfl, rfl⟩, rfl⟩
theorem dX6_afterSign_25 : vm_at cX6_afterSign 25 (.invokestatic 59) 3 28 := ⟨vm_row tbX6_afterSign 13 rfl, rfl⟩
theorem dX6_afterSign_28 : vm_at cX6_afterSign 28 (.iload_n 3) 1 29 ∧ ((3 : Fin 4) : Nat) = 3 := ⟨⟨vm_row tbX6_afterSign 14 rfl, rfl⟩, rfl⟩
theorem dX6_afterSign_29 : vm_at cX6_afterSign 29 (.invokevirtual 69) 3 32 := ⟨vm_row tbX6_afterSign 15 rfl, rfl⟩
theorem dX6_afterSign_32 : vm_at cX6_afterSign 32 (.istore_n 3) 1 33 ∧ ((3 : Fin 4) : Nat) = 3 := ⟨⟨vm_row tbX6_afterSign 16 rfl, rfl⟩, rfl⟩
theorem dX6_afterSign_33 : vm_at cX6_afterSign 33 (.iload_n 2) 1 34 ∧ ((2 : Fin 4) : Nat) = 2 := ⟨⟨vm_row tbX6_afterSign 17 rfl, rfl⟩, rfl⟩
theorem dX6_afterSign_34 : vm_at cX6_afterSign 34 (.bipush 14) 2 36 ∧ (Int8.ofInt (14)).toInt32 = (14 : Int32) := ⟨⟨vm_row tbX6_afterSign 18 rfl, rfl⟩, z_bipush_14⟩
theorem dX6_afterSign_36 : vm_at cX6_afterSign 36 (.ishl) 1 37 := ⟨vm_row tbX6_afterSign 19 rfl, rfl⟩
theorem dX6_afterSign_37 : vm_at cX6_afterSign 37 (.iload_n 3) 1 38 ∧ ((3 : Fin 4) : Nat) = 3 := ⟨⟨vm_row tbX6_afterSign 20 rfl, rfl⟩, rfl⟩
theorem dX6_afterSign_38 : vm_at cX6_afterSign 38 (.bipush 7) 2 40 ∧ (Int8.ofInt (7)).toInt32 = (7 : Int32) := ⟨⟨vm_row tbX6_afterSign 21 rfl, rfl⟩, z_bipush_7⟩
theorem dX6_afterSign_40 : vm_at cX6_afterSign 40 (.ishl) 1 41 := ⟨vm_row tbX6_afterSign 22 rfl, rfl⟩
theorem dX6_afterSign_41 : vm_at cX6_afterSign 41 (.ior) 1 42 := ⟨vm_row tbX6_afterSign 23 rfl, rfl⟩
theorem dX6_afterSign_42 : vm_at cX6_afterSign 42 (.iload_n 3) 1 43 ∧ ((3 : Fin 4) : Nat) = 3 := ⟨⟨vm_row tbX6_afterSign 24 rfl, rfl⟩, rfl⟩
theorem dX6_afterSign_43 : vm_at cX6_afterSign 43 (.ior) 1 44 := ⟨vm_row tbX6_afterSign 25 rfl, rfl⟩
theorem dX6_afterSign_44 : vm_at cX6_afterSign 44 (.ireturn) 1 45 := ⟨vm_row tbX6_afterSign 26 rfl, rfl⟩
def tlX6_reckon : List (Nat × Instr × Nat) := [(0, .iload_n 2, 1), (1, .iconst 1, 1), (2, .if_icmp .ne 9, 3), (5, .iload_n 1, 1), (6, .iload_n 3, 1), (7, .iadd, 1), (8, .goto 17, 3), (11, .iload_n 2, 1), (12, .iconst 2, 1), (13, .if_icmp .ne 9, 3), (16, .iload_n 1, 1), (17, .iload_n 3, 1), (18, .isub, 1), (19, .goto 6, 3), (22, .iload_n 1, 1), (23, .iload_n 3, 1), (24, .imul, 1), (25, .istore 4, 2), (27, .iload 4, 2), (29, .ifCond .lt 15, 3), (32, .iload 4, 2), (34, .aload_n 0, 1), (35, .getfield 21, 3), (38, .if_icmp .ge 6, 3), (41, .iload 4, 2), (43, .ireturn, 1), (44, .iload 4, 2), (46, .ifCond .ge 11, 3), (49, .aload_n 0, 1), (50, .getfield 9, 3), (53, .iconst 1, 1), (54, .if_icmp .eq 10, 3), (57, .aload_n 0, 1), (58, .getfield 21, 3), (61, .ifCond .gt 5, 3), (64, .iconst 0, 1), (65, .ireturn, 1), (66, .aload_n 0, 1), (67, .getfield 9, 3), (70, .iconst 1, 1), (71, .if_icmp .ne 12, 3), (74, .aload_n 0, 1), (75, .getfield 21, 3), (78, .iconst 1, 1), (79, .isub, 1), (80, .goto 12, 3), (83, .iload 4, 2), (85, .aload_n 0, 1), (86, .getfield 21, 3), (89, .invokestatic 79, 3), (92, .ireturn, 1)]
theorem tbX6_reckon : vm_chk cX6_reckon tlX6_reckon = true := by decide +kernel
theorem dX6_reckon_0 : vm_at cX6_reckon 0 (.iload_n 2) 1 1 ∧ ((2 : Fin 4) : Nat) = 2 := ⟨⟨vm_row tbX6_reckon 0 rfl, rfl⟩, rfl⟩
theorem dX6_reckon_1 : vm_at cX6_reckon 1 (.iconst 1) 1 2 ∧ Int32.ofInt (1) = (1 : Int32) := ⟨⟨vm_row tbX6_reckon 1 rfl, rfl⟩, z_iconst_1⟩
theorem dX6_reckon_2 : vm_br cX6_reckon 2 (.if_icmp .ne 9) 3 5 (9) 11 := ⟨vm_row tbX6_reckon 2 rfl, rfl, rfl⟩
theorem dX6_reckon_5 : vm_at cX6_reckon 5 (.iload_n 1) 1 6 ∧ ((1 : Fin 4) : Nat) = 1 := ⟨⟨vm_row tbX6_reckon 3 rfl, rfl⟩, rfl⟩
theorem dX6_reckon_6 : vm_at cX6_reckon 6 (.iload_n 3) 1 7 ∧ ((3 : Fin 4) : Nat) = 3 := ⟨⟨vm_row tbX6_reckon 4 rfl, rfl⟩, rfl⟩
theorem dX6_reckon_7 : vm_at cX6_reckon 7 (.iadd) 1 8 := ⟨vm_row tbX6_reckon 5 rfl, rfl⟩
theorem dX6_reckon_8 : vm_br cX6_reckon 8 (.goto 17) 3 11 (17) 25 := ⟨vm_row tbX6_reckon 6 rfl, rfl, rfl⟩
theorem dX6_reckon_11 : vm_at cX6_reckon 11 (.iload_n 2) 1 12 ∧ ((2 : Fin 4) : Nat) = 2 := ⟨⟨vm_row tbX6_reckon 7 rfl, rfl⟩, rfl⟩
theorem dX6_reckon_12 : vm_at cX6_reckon 12 (.iconst 2) 1 13 ∧ Int32.ofInt (2) = (2 : Int32) := ⟨⟨vm_row tbX6_reckon 8 rfl, rfl⟩, z_iconst_2⟩
theorem dX6_reckon_13 : vm_br cX6_reckon 13 (.if_icmp .ne 9) 3 16 (9) 22 := ⟨vm_row tbX6_reckon 9 rfl, rfl, rfl⟩
theorem dX6_reckon_16 : vm_at cX6_reckon 16 (.iload_n 1) 1 17 ∧ ((1 : Fin 4) : Nat) = 1 := ⟨⟨vm_row tbX6_reckon 10 rfl, rfl⟩, rfl⟩
theorem dX6_reckon_17 : vm_at cX6_reckon 17 (.iload_n 3) 1 18 ∧ ((3 : Fin 4) : Nat) = 3 := ⟨⟨vm_row tbX6_reckon 11 rfl, rfl⟩, rfl⟩
theorem dX6_reckon_18 : vm_at cX6_reckon 18 (.isub) 1 19 := ⟨vm_row tbX6_reckon 12 rfl, rfl⟩
theorem dX6_reckon_19 : vm_br cX6_reckon 19 (.goto 6) 3 22 (6) 25 := ⟨vm_row tbX6_reckon 13 rfl, rfl, rfl⟩
theorem dX6_reckon_22 : vm_at cX6_reckon 22 (.iload_n 1) 1 23 ∧ ((1 : Fin 4) : Nat) = 1 := ⟨⟨vm_row tbX6_reckon 14 rfl, rfl⟩, rfl⟩
theorem dX6_reckon_23 : vm_at cX6_reckon 23 (.iload_n 3) 1 24 ∧ ((3 : Fin 4) : Nat) = 3 := ⟨⟨vm_row tbX6_reckon 15 rfl, rfl⟩, rfl⟩
theorem dX6_reckon_24 : vm_at cX6_reckon 24 (.imul) 1 25 := ⟨vm_row tbX6_reckon 16 rfl, rfl⟩
theorem dX6_reckon_25 : vm_at cX6_reckon 25 (.istore 4) 2 27 := ⟨vm_row tbX6_reckon 17 rfl, rfl⟩
theorem dX6_reckon_27 : vm_at cX6_reckon 27 (.iload 4) 2 29 := ⟨vm_row tbX6_reckon 18 rfl, rfl⟩
theorem dX6_reckon_29 : vm_br cX6_reckon 29 (.ifCond .lt 15) 3 32 (15) 44 := ⟨vm_row tbX6_reckon 19 rfl, rfl, rfl⟩
theorem dX6_reckon_32 : vm_at cX6_reckon 32 (.iload 4) 2 34 := ⟨vm_row tbX6_reckon 20 rfl, rfl⟩
theorem dX6_reckon_34 : vm_at cX6_reckon 34 (.aload_n 0) 1 35 ∧ ((0 : Fin 4) : Nat) = 0 := ⟨⟨vm_row tbX6_reckon 21 rfl, rfl⟩, rfl⟩
theorem dX6_reckon_35 : vm_at cX6_reckon 35 (.getfield 21) 3 38 := ⟨vm_row tbX6_reckon 22 rfl, rfl⟩
theorem dX6_reckon_38 : vm_br cX6_reckon 38 (.if_icmp .ge 6) 3 41 (6) 44 := ⟨vm_row tbX6_reckon 23 rfl, rfl, rfl⟩
theorem dX6_reckon_41 : vm_at cX6_reckon 41 (.iload 4) 2 43 := ⟨vm_row tbX6_reckon 24 rfl, rfl⟩
theorem dX6_reckon_43 : vm_at cX6_reckon 43 (.ireturn) 1 44 := ⟨vm_row tbX6_reckon 25 rfl, rfl⟩
theorem dX6_reckon_44 : vm_at cX6_reckon 44 (.iload 4) 2 46 := ⟨vm_row tbX6_reckon 26 rfl, rfl⟩
theorem dX6_reckon_46 : vm_br cX6_reckon 46 (.ifCond .ge 11) 3 49 (11) 57 := ⟨vm_row tbX6_reckon 27 rfl, rfl, rfl⟩
theorem dX6_reckon_49 : vm_at cX6_reckon 49 (.aload_n 0) 1 50 ∧ ((0 : Fin 4) : Nat) = 0 := ⟨⟨vm_row tbX6_reckon 28 rfl, rfl⟩, rfl⟩
theorem dX6_reckon_50 : vm_at cX6_reckon 50 (.getfield 9) 3 53 := ⟨vm_row tbX6_reckon 29 rfl, rfl⟩
theorem dX6_reckon_53 : vm_at cX6_reckon 53 (.iconst 1) 1 54 ∧ Int32.ofInt (1) = (1 : Int32) := ⟨⟨vm_row tbX6_reckon 30 rfl, rfl⟩, z_iconst_1⟩
theorem dX6_reckon_54 : vm_br cX6_reckon 54 (.if_icmp .eq 10) 3 57 (10) 64 := ⟨vm_row tbX6_reckon 31 rfl, rfl, rfl⟩
theorem dX6_reckon_57 : vm_at cX6_reckon 57 (.aload_n 0) 1 58 ∧ ((0 : Fin 4) : Nat) = 0 := ⟨⟨vm_row tbX6_reckon 32 rfl, rfl⟩, rfl⟩
theorem dX6_reckon_58 : vm_at cX6_reckon 58 (.getfield 21) 3 61 := ⟨vm_row tbX6_reckon 33 rfl, rfl⟩
theorem dX6_reckon_61 : vm_br cX6_reckon 61 (.ifCond .gt 5) 3 64 (5) 66 := ⟨vm_row tbX6_reckon 34 rfl, rfl, rfl⟩
theorem dX6_reckon_64 : vm_at cX6_reckon 64 (.iconst 0) 1 65 ∧ Int32.ofInt (0) = (0 : Int32) := ⟨⟨vm_row tbX6_reckon 35 rfl, rfl⟩, z_iconst_0⟩
theorem dX6_reckon_65 : vm_at cX6_reckon 65 (.ireturn) 1 66 := ⟨vm_row tbX6_reckon 36 rfl, rfl⟩
theorem dX6_reckon_66 : vm_at cX6_reckon 66 (.aload_n 0) 1 67 ∧ ((0 : Fin 4) : Nat) = 0 := ⟨⟨vm_row tbX6_reckon 37 rfl, rfl⟩, rfl⟩
theorem dX6_reckon_67 : vm_at cX6_reckon 67 (.getfield 9) 3 70 := ⟨vm_row tbX6_reckon 38 rfl, rfl⟩
theorem dX6_reckon_70 : vm_at cX6_reckon 70 (.iconst 1) 1 71 ∧ Int32.ofInt (1) = (1 : Int32) := ⟨⟨vm_row tbX6_reckon 39 rfl, rfl⟩, z_iconst_1⟩
theorem dX6_reckon_71 : vm_br cX6_reckon 71 (.if_icmp .ne 12) 3 74 (12) 83 := ⟨vm_row tbX6_reckon 40 rfl, rfl, rfl⟩
theorem dX6_reckon_74 : vm_at cX6_reckon 74 (.aload_n 0) 1 75 ∧ ((0 : Fin 4) : Nat) = 0 := ⟨⟨vm_row tbX6_reckon 41 rfl, rfl⟩, rfl⟩
theorem dX6_reckon_75 : vm_at cX6_reckon 75 (.getfield 21) 3 78 := ⟨vm_row tbX6_reckon 42 rfl, rfl⟩
theorem dX6_reckon_78 : vm_at cX6_reckon 78 (.iconst 1) 1 79 ∧ Int32.ofInt (1) = (1 : Int32) := ⟨⟨vm_row tbX6_reckon 43 rfl, rfl⟩, z_iconst_1⟩
theorem dX6_reckon_79 : vm_at cX6_reckon 79 (.isub) 1 80 := ⟨vm_row tbX6_reckon 44 rfl, rfl⟩
theorem dX6_reckon_80 : vm_br cX6_reckon 80 (.goto 12) 3 83 (12) 92 := ⟨vm_row tbX6_reckon 45 rfl, rfl, rfl⟩
theorem dX6_reckon_83 : vm_at cX6_reckon 83 (.iload 4) 2 85 := ⟨vm_row tbX6_reckon 46 rfl, rfl⟩
theorem dX6_reckon_85 : vm_at cX6_reckon 85 (.aload_n 0) 1 86 ∧ ((0 : Fin 4) : Nat) = 0 := ⟨⟨vm_row tbX6_reckon 47 rfl, rfl⟩, rfl⟩
theorem dX6_reckon_86 : vm_at cX6_reckon 86 (.getfield 21) 3 89 := ⟨vm_row tbX6_reckon 48 rfl, rfl⟩
theorem dX6_reckon_89 : vm_at cX6_reckon 89 (.invokestatic 79) 3 92 := ⟨vm_row tbX6_reckon 49 rfl, rfl⟩
theorem dX6_reckon_92 : vm_at cX6_reckon 92 (.ireturn) 1 93 := ⟨vm_row tbX6_reckon 50 rfl, rfl⟩
def tlX6_places : List (Nat × Instr × Nat) := [(0, .iconst 2, 1), (1, .aload_n 0, 1), (2, .getfield 21, 3), (5, .imul, 1), (6, .iconst 1, 1), (7, .iconst 3, 1), (8, .aload_n 0, 1), (9, .getfield 21, 3), (12, .imul, 1), (13, .iadd, 1), (14, .imul, 1), (15, .ireturn, 1)]
theorem tbX6_places : vm_chk cX6_places tlX6_places = true := by decide +kernel
theorem dX6_places_0 : vm_at cX6_places 0 (.iconst 2) 1 1 ∧ Int32.ofInt (2) = (2 : Int32) := ⟨⟨vm_row tbX6_places 0 rfl, rfl⟩, z_iconst_2⟩
theorem dX6_places_1 : vm_at cX6_places 1 (.aload_n 0) 1 2 ∧ ((0 : Fin 4) : Nat) = 0 := ⟨⟨vm_row tbX6_places 1 rfl, rfl⟩, rfl⟩
theorem dX6_places_2 : vm_at cX6_places 2 (.getfield 21) 3 5 := ⟨vm_row tbX6_places 2 rfl, rfl⟩
theorem dX6_places_5 : vm_at cX6_places 5 (.imul) 1 6 := ⟨vm_row tbX6_places 3 rfl, rfl⟩
theorem dX6_places_6 : vm_at cX6_places 6 (.iconst 1) 1 7 ∧ Int32.ofInt (1) = (1 : Int32) := ⟨⟨vm_row tbX6_places 4 rfl, rfl⟩, z_iconst_1⟩
theorem dX6_places_7 : vm_at cX6_places 7 (.iconst 3) 1 8 ∧ Int32.ofInt (3) = (3 : Int32) := ⟨⟨vm_row tbX6_places 5 rfl, rfl⟩, z_iconst_3⟩
theorem dX6_places_8 : vm_at cX6_places 8 (.aload_n 0) 1 9 ∧ ((0 : Fin 4) : Nat) = 0 := ⟨⟨vm_row tbX6_places 6 rfl, rfl⟩, rfl⟩
theorem dX6_places_9 : vm_at cX6_places 9 (.getfield 21) 3 12 := ⟨vm_row tbX6_places 7 rfl, rfl⟩
theorem dX6_places_12 : vm_at cX6_places 12 (.imul) 1 13 := ⟨vm_row tbX6_places 8 rfl, rfl⟩
theorem dX6_places_13 : vm_at cX6_places 13 (.iadd) 1 14 := ⟨vm_row tbX6_places 9 rfl, rfl⟩
theorem dX6_places_14 : vm_at cX6_places 14 (.imul) 1 15 := ⟨vm_row tbX6_places 10 rfl, rfl⟩
theorem dX6_places_15 : vm_at cX6_places 15 (.ireturn) 1 16 := ⟨vm_row tbX6_places 11 rfl, rfl⟩
def tlX6_placeOf : List (Nat × Instr × Nat) := [(0, .iload_n 1, 1), (1, .invokestatic 59, 3), (4, .istore_n 2, 1), (5, .iload_n 2, 1), (6, .ifCond .ne 7, 3), (9, .iconst 0, 1), (10, .goto 18, 3), (13, .iconst 1, 1), (14, .iload_n 2, 1), (15, .iconst 1, 1), (16, .isub, 1), (17, .aload_n 0, 1), (18, .getfield 21, 3), (21, .imul, 1), (22, .iadd, 1), (23, .iload_n 1, 1), (24, .invokestatic 66, 3), (27, .iadd, 1), (28, .istore_n 3, 1), (29, .iconst 2, 1), (30, .iload_n 3, 1), (31, .aload_n 0, 1), (32, .getfield 21, 3), (35, .imul, 1), (36, .iload_n 1, 1), (37, .invokestatic 63, 3), (40, .iadd, 1), (41, .imul, 1), (42, .iload_n 1, 1), (43, .invokestatic 74, 3), (46, .ifCond .eq 7, 3), (49, .iconst 1, 1), (50, .goto 4, 3), (53, .iconst 0, 1), (54, .iadd, 1), (55, .ireturn, 1)]
theorem tbX6_placeOf : vm_chk cX6_placeOf tlX6_placeOf = true := by decide +kernel
theorem dX6_placeOf_0 : vm_at cX6_placeOf 0 (.iload_n 1) 1 1 ∧ ((1 : Fin 4) : Nat) = 1 := ⟨⟨vm_row tbX6_placeOf 0 rfl, rfl⟩, rfl⟩
theorem dX6_placeOf_1 : vm_at cX6_placeOf 1 (.invokestatic 59) 3 4 := ⟨vm_row tbX6_placeOf 1 rfl, rfl⟩
theorem dX6_placeOf_4 : vm_at cX6_placeOf 4 (.istore_n 2) 1 5 ∧ ((2 : Fin 4) : Nat) = 2 := ⟨⟨vm_row tbX6_placeOf 2 rfl, rfl⟩, rfl⟩
theorem dX6_placeOf_5 : vm_at cX6_placeOf 5 (.iload_n 2) 1 6 ∧ ((2 : Fin 4) : Nat) = 2 := ⟨⟨vm_row tbX6_placeOf 3 rfl, rfl⟩, rfl⟩
theorem dX6_placeOf_6 : vm_br cX6_placeOf 6 (.ifCond .ne 7) 3 9 (7) 13 := ⟨vm_row tbX6_placeOf 4 rfl, rfl, rfl⟩
theorem dX6_placeOf_9 : vm_at cX6_placeOf 9 (.iconst 0) 1 10 ∧ Int32.ofInt (0) = (0 : Int32) := ⟨⟨vm_row tbX6_placeOf 5 rfl, rfl⟩, z_iconst_0⟩
theorem dX6_placeOf_10 : vm_br cX6_placeOf 10 (.goto 18) 3 13 (18) 28 := ⟨vm_row tbX6_placeOf 6 rfl, rfl, rfl⟩
theorem dX6_placeOf_13 : vm_at cX6_placeOf 13 (.iconst 1) 1 14 ∧ Int32.ofInt (1) = (1 : Int32) := ⟨⟨vm_row tbX6_placeOf 7 rfl, rfl⟩, z_iconst_1⟩
theorem dX6_placeOf_14 : vm_at cX6_placeOf 14 (.iload_n 2) 1 15 ∧ ((2 : Fin 4) : Nat) = 2 := ⟨⟨vm_row tbX6_placeOf 8 rfl, rfl⟩, rfl⟩
theorem dX6_placeOf_15 : vm_at cX6_placeOf 15 (.iconst 1) 1 16 ∧ Int32.ofInt (1) = (1 : Int32) := ⟨⟨vm_row tbX6_placeOf 9 rfl, rfl⟩, z_iconst_1⟩
theorem dX6_placeOf_16 : vm_at cX6_placeOf 16 (.isub) 1 17 := ⟨vm_row tbX6_placeOf 10 rfl, rfl⟩
theorem dX6_placeOf_17 : vm_at cX6_placeOf 17 (.aload_n 0) 1 18 ∧ ((0 : Fin 4) : Nat) = 0 := ⟨⟨vm_row tbX6_placeOf 11 rfl, rfl⟩, rfl⟩
theorem dX6_placeOf_18 : vm_at cX6_placeOf 18 (.getfield 21) 3 21 := ⟨vm_row tbX6_placeOf 12 rfl, rfl⟩
theorem dX6_placeOf_21 : vm_at cX6_placeOf 21 (.imul) 1 22 := ⟨vm_row tbX6_placeOf 13 rfl, rfl⟩
theorem dX6_placeOf_22 : vm_at cX6_placeOf 22 (.iadd) 1 23 := ⟨vm_row tbX6_placeOf 14 rfl, rfl⟩
theorem dX6_placeOf_23 : vm_at cX6_placeOf 23 (.iload_n 1) 1 24 ∧ ((1 : Fin 4) : Nat) = 1 := ⟨⟨vm_row tbX6_placeOf 15 rfl, rfl⟩, rfl⟩
theorem dX6_placeOf_24 : vm_at cX6_placeOf 24 (.invokestatic 66) 3 27 := ⟨vm_row tbX6_placeOf 16 rfl, rfl⟩
theorem dX6_placeOf_27 : vm_at cX6_placeOf 27 (.iadd) 1 28 := ⟨vm_row tbX6_placeOf 17 rfl, rfl⟩
theorem dX6_placeOf_28 : vm_at cX6_placeOf 28 (.istore_n 3) 1 29 ∧ ((3 : Fin 4) : Nat) = 3 := ⟨⟨vm_row tbX6_placeOf 18 rfl, rfl⟩, rfl⟩
theorem dX6_placeOf_29 : vm_at cX6_placeOf 29 (.iconst 2) 1 30 ∧ Int32.ofInt (2) = (2 : Int32) := ⟨⟨vm_row tbX6_placeOf 19 rfl, rfl⟩, z_iconst_2⟩
theorem dX6_placeOf_30 : vm_at cX6_placeOf 30 (.iload_n 3) 1 31 ∧ ((3 : Fin 4) : Nat) = 3 := ⟨⟨vm_row tbX6_placeOf 20 rfl, rfl⟩, rfl⟩
theorem dX6_placeOf_31 : vm_at cX6_placeOf 31 (.aload_n 0) 1 32 ∧ ((0 : Fin 4) : Nat) = 0 := ⟨⟨vm_row tbX6_placeOf 21 rfl, rfl⟩, rfl⟩
theorem dX6_placeOf_32 : vm_at cX6_placeOf 32 (.getfield 21) 3 35 := ⟨vm_row tbX6_placeOf 22 rfl, rfl⟩
theorem dX6_placeOf_35 : vm_at cX6_placeOf 35 (.imul) 1 36 := ⟨vm_row tbX6_placeOf 23 rfl, rfl⟩
theorem dX6_placeOf_36 : vm_at cX6_placeOf 36 (.iload_n 1) 1 37 ∧ ((1 : Fin 4) : Nat) = 1 := ⟨⟨vm_row tbX6_placeOf 24 rfl, rfl⟩, rfl⟩
theorem dX6_placeOf_37 : vm_at cX6_placeOf 37 (.invokestatic 63) 3 40 := ⟨vm_row tbX6_placeOf 25 rfl, rfl⟩
theorem dX6_placeOf_40 : vm_at cX6_placeOf 40 (.iadd) 1 41 := ⟨vm_row tbX6_placeOf 26 rfl, rfl⟩
theorem dX6_placeOf_41 : vm_at cX6_placeOf 41 (.imul) 1 42 := ⟨vm_row tbX6_placeOf 27 rfl, rfl⟩
theorem dX6_placeOf_42 : vm_at cX6_placeOf 42 (.iload_n 1) 1 43 ∧ ((1 : Fin 4) : Nat) = 1 := ⟨⟨vm_row tbX6_placeOf 28 rfl, rfl⟩, rfl⟩
theorem dX6_placeOf_43 : vm_at cX6_placeOf 43 (.invokestatic 74) 3 46 := ⟨vm_row tbX6_placeOf 29 rfl, rfl⟩
theorem dX6_placeOf_46 : vm_br cX6_placeOf 46 (.ifCond .eq 7) 3 49 (7) 53 := ⟨vm_row tbX6_placeOf 30 rfl, rfl, rfl⟩
theorem dX6_placeOf_49 : vm_at cX6_placeOf 49 (.iconst 1) 1 50 ∧ Int32.ofInt (1) = (1 : Int32) := ⟨⟨vm_row tbX6_placeOf 31 rfl, rfl⟩, z_iconst_1⟩
theorem dX6_placeOf_50 : vm_br cX6_placeOf 50 (.goto 4) 3 53 (4) 54 := ⟨vm_row tbX6_placeOf 32 rfl, rfl, rfl⟩
theorem dX6_placeOf_53 : vm_at cX6_placeOf 53 (.iconst 0) 1 54 ∧ Int32.ofInt (0) = (0 : Int32) := ⟨⟨vm_row tbX6_placeOf 33 rfl, rfl⟩, z_iconst_0⟩
theorem dX6_placeOf_54 : vm_at cX6_placeOf 54 (.iadd) 1 55 := ⟨vm_row tbX6_placeOf 34 rfl, rfl⟩
theorem dX6_placeOf_55 : vm_at cX6_placeOf 55 (.ireturn) 1 56 := ⟨vm_row tbX6_placeOf 35 rfl, rfl⟩
def tlX6_stateAt : List (Nat × Instr × Nat) := [(0, .aload_n 0, 1), (1, .getfield 21, 3), (4, .ifCond .gt 5, 3), (7, .iconst 0, 1), (8, .ireturn, 1), (9, .iload_n 1, 1), (10, .iconst 2, 1), (11, .idiv, 1), (12, .aload_n 0, 1), (13, .getfield 21, 3), (16, .irem, 1), (17, .istore_n 2, 1), (18, .iload_n 1, 1), (19, .iconst 2, 1), (20, .idiv, 1), (21, .aload_n 0, 1), (22, .getfield 21, 3), (25, .idiv, 1), (26, .istore_n 3, 1), (27, .iload_n 2, 1), (28, .iload_n 1, 1), (29, .iconst 2, 1), (30, .irem, 1), (31, .ifCond .ne 7, 3), (34, .iconst 0, 1), (35, .goto 5, 3), (38, .ldc 78, 2), (40, .ior, 1), (41, .istore 4, 2), (43, .iload_n 3, 1), (44, .ifCond .ne 6, 3), (47, .iload 4, 2), (49, .ireturn, 1), (50, .iconst 1, 1), (51, .iload_n 3, 1), (52, .iconst 1, 1), (53, .isub, 1), (54, .aload_n 0, 1), (55, .getfield 21, 3), (58, .idiv, 1), (59, .iadd, 1), (60, .istore 5, 2), (62, .iload 4, 2), (64, .iload 5, 2), (66, .bipush 14, 2), (68, .ishl, 1), (69, .ior, 1), (70, .iload_n 3, 1), (71, .iconst 1, 1), (72, .isub, 1), (73, .aload_n 0, 1), (74, .getfield 21, 3), (77, .irem, 1), (78, .bipush 7, 2), (80, .ishl, 1), (81, .ior, 1), (82, .ireturn, 1)]
theorem tbX6_stateAt : vm_chk cX6_stateAt tlX6_stateAt = true := by decide +kernel
theorem dX6_stateAt_0 : vm_at cX6_stateAt 0 (.aload_n 0) 1 1 ∧ ((0 : Fin 4) : Nat) = 0 := ⟨⟨vm_row tbX6_stateAt 0 rfl, rfl⟩, rfl⟩
theorem dX6_stateAt_1 : vm_at cX6_stateAt 1 (.getfield 21) 3 4 := ⟨vm_row tbX6_stateAt 1 rfl, rfl⟩
theorem dX6_stateAt_4 : vm_br cX6_stateAt 4 (.ifCond .gt 5) 3 7 (5) 9 := ⟨vm_row tbX6_stateAt 2 rfl, rfl, rfl⟩
theorem dX6_stateAt_7 : vm_at cX6_stateAt 7 (.iconst 0) 1 8 ∧ Int32.ofInt (0) = (0 : Int32) := ⟨⟨vm_row tbX6_stateAt 3 rfl, rfl⟩, z_iconst_0⟩
theorem dX6_stateAt_8 : vm_at cX6_stateAt 8 (.ireturn) 1 9 := ⟨vm_row tbX6_stateAt 4 rfl, rfl⟩
theorem dX6_stateAt_9 : vm_at cX6_stateAt 9 (.iload_n 1) 1 10 ∧ ((1 : Fin 4) : Nat) = 1 := ⟨⟨vm_row tbX6_stateAt 5 rfl, rfl⟩, rfl⟩
theorem dX6_stateAt_10 : vm_at cX6_stateAt 10 (.iconst 2) 1 11 ∧ Int32.ofInt (2) = (2 : Int32) := ⟨⟨vm_row tbX6_stateAt 6 rfl, rfl⟩, z_iconst_2⟩
theorem dX6_stateAt_11 : vm_at cX6_stateAt 11 (.idiv) 1 12 := ⟨vm_row tbX6_stateAt 7 rfl, rfl⟩
theorem dX6_stateAt_12 : vm_at cX6_stateAt 12 (.aload_n 0) 1 13 ∧ ((0 : Fin 4) : Nat) = 0 := ⟨⟨vm_row tbX6_stateAt 8 rfl, rfl⟩, rfl⟩
theorem dX6_stateAt_13 : vm_at cX6_stateAt 13 (.getfield 21) 3 16 := ⟨vm_row tbX6_stateAt 9 rfl, rfl⟩
theorem dX6_stateAt_16 : vm_at cX6_stateAt 16 (.irem) 1 17 := ⟨vm_row tbX6_stateAt 10 rfl, rfl⟩
theorem dX6_stateAt_17 : vm_at cX6_stateAt 17 (.istore_n 2) 1 18 ∧ ((2 : Fin 4) : Nat) = 2 := ⟨⟨vm_row tbX6_stateAt 11 rfl, rfl⟩, rfl⟩
theorem dX6_stateAt_18 : vm_at cX6_stateAt 18 (.iload_n 1) 1 19 ∧ ((1 : Fin 4) : Nat) = 1 := ⟨⟨vm_row tbX6_stateAt 12 rfl, rfl⟩, rfl⟩
theorem dX6_stateAt_19 : vm_at cX6_stateAt 19 (.iconst 2) 1 20 ∧ Int32.ofInt (2) = (2 : Int32) := ⟨⟨vm_row tbX6_stateAt 13 rfl, rfl⟩, z_iconst_2⟩
theorem dX6_stateAt_20 : vm_at cX6_stateAt 20 (.idiv) 1 21 := ⟨vm_row tbX6_stateAt 14 rfl, rfl⟩
theorem dX6_stateAt_21 : vm_at cX6_stateAt 21 (.aload_n 0) 1 22 ∧ ((0 : Fin 4) : Nat) = 0 := ⟨⟨vm_row tbX6_stateAt 15 rfl, rfl⟩, rfl⟩
theorem dX6_stateAt_22 : vm_at cX6_stateAt 22 (.getfield 21) 3 25 := ⟨vm_row tbX6_stateAt 16 rfl, rfl⟩
theorem dX6_stateAt_25 : vm_at cX6_stateAt 25 (.idiv) 1 26 := ⟨vm_row tbX6_stateAt 17 rfl, rfl⟩
theorem dX6_stateAt_26 : vm_at cX6_stateAt 26 (.istore_n 3) 1 27 ∧ ((3 : Fin 4) : Nat) = 3 := ⟨⟨vm_row tbX6_stateAt 18 rfl, rfl⟩, rfl⟩
theorem dX6_stateAt_27 : vm_at cX6_stateAt 27 (.iload_n 2) 1 28 ∧ ((2 : Fin 4) : Nat) = 2 := ⟨⟨vm_row tbX6_stateAt 19 rfl, rfl⟩, rfl⟩
theorem dX6_stateAt_28 : vm_at cX6_stateAt 28 (.iload_n 1) 1 29 ∧ ((1 : Fin 4) : Nat) = 1 := ⟨⟨vm_row tbX6_stateAt 20 rfl, rfl⟩, rfl⟩
theorem dX6_stateAt_29 : vm_at cX6_stateAt 29 (.iconst 2) 1 30 ∧ Int32.ofInt (2) = (2 : Int32) := ⟨⟨vm_row tbX6_stateAt 21 rfl, rfl⟩, z_iconst_2⟩
theorem dX6_stateAt_30 : vm_at cX6_stateAt 30 (.irem) 1 31 := ⟨vm_row tbX6_stateAt 22 rfl, rfl⟩
theorem dX6_stateAt_31 : vm_br cX6_stateAt 31 (.ifCond .ne 7) 3 34 (7) 38 := ⟨vm_row tbX6_stateAt 23 rfl, rfl, rfl⟩
theorem dX6_stateAt_34 : vm_at cX6_stateAt 34 (.iconst 0) 1 35 ∧ Int32.ofInt (0) = (0 : Int32) := ⟨⟨vm_row tbX6_stateAt 24 rfl, rfl⟩, z_iconst_0⟩
theorem dX6_stateAt_35 : vm_br cX6_stateAt 35 (.goto 5) 3 38 (5) 40 := ⟨vm_row tbX6_stateAt 25 rfl, rfl, rfl⟩
theorem dX6_stateAt_38 : vm_at cX6_stateAt 38 (.ldc 78) 2 40 := ⟨vm_row tbX6_stateAt 26 rfl, rfl⟩
theorem dX6_stateAt_40 : vm_at cX6_stateAt 40 (.ior) 1 41 := ⟨vm_row tbX6_stateAt 27 rfl, rfl⟩
theorem dX6_stateAt_41 : vm_at cX6_stateAt 41 (.istore 4) 2 43 := ⟨vm_row tbX6_stateAt 28 rfl, rfl⟩
theorem dX6_stateAt_43 : vm_at cX6_stateAt 43 (.iload_n 3) 1 44 ∧ ((3 : Fin 4) : Nat) = 3 := ⟨⟨vm_row tbX6_stateAt 29 rfl, rfl⟩, rfl⟩
theorem dX6_stateAt_44 : vm_br cX6_stateAt 44 (.ifCond .ne 6) 3 47 (6) 50 := ⟨vm_row tbX6_stateAt 30 rfl, rfl, rfl⟩
theorem dX6_stateAt_47 : vm_at cX6_stateAt 47 (.iload 4) 2 49 := ⟨vm_row tbX6_stateAt 31 rfl, rfl⟩
theorem dX6_stateAt_49 : vm_at cX6_stateAt 49 (.ireturn) 1 50 := ⟨vm_row tbX6_stateAt 32 rfl, rfl⟩
theorem dX6_stateAt_50 : vm_at cX6_stateAt 50 (.iconst 1) 1 51 ∧ Int32.ofInt (1) = (1 : Int32) := ⟨⟨vm_row tbX6_stateAt 33 rfl, rfl⟩, z_iconst_1⟩
theorem dX6_stateAt_51 : vm_at cX6_stateAt 51 (.iload_n 3) 1 52 ∧ ((3 : Fin 4) : Nat) = 3 := ⟨⟨vm_row tbX6_stateAt 34 rfl, rfl⟩, rfl⟩
theorem dX6_stateAt_52 : vm_at cX6_stateAt 52 (.iconst 1) 1 53 ∧ Int32.ofInt (1) = (1 : Int32) := ⟨⟨vm_row tbX6_stateAt 35 rfl, rfl⟩, z_iconst_1⟩
theorem dX6_stateAt_53 : vm_at cX6_stateAt 53 (.isub) 1 54 := ⟨vm_row tbX6_stateAt 36 rfl, rfl⟩
theorem dX6_stateAt_54 : vm_at cX6_stateAt 54 (.aload_n 0) 1 55 ∧ ((0 : Fin 4) : Nat) = 0 := ⟨⟨vm_row tbX6_stateAt 37 rfl, rfl⟩, rfl⟩
theorem dX6_stateAt_55 : vm_at cX6_stateAt 55 (.getfield 21) 3 58 := ⟨vm_row tbX6_stateAt 38 rfl, rfl⟩
theorem dX6_stateAt_58 : vm_at cX6_stateAt 58 (.idiv) 1 59 := ⟨vm_row tbX6_stateAt 39 rfl, rfl⟩
theorem dX6_stateAt_59 : vm_at cX6_stateAt 59 (.iadd) 1 60 := ⟨vm_row tbX6_stateAt 40 rfl, rfl⟩
theorem dX6_stateAt_60 : vm_at cX6_stateAt 60 (.istore 5) 2 62 := ⟨vm_row tbX6_stateAt 41 rfl, rfl⟩
theorem dX6_stateAt_62 : vm_at cX6_stateAt 62 (.iload 4) 2 64 := ⟨vm_row tbX6_stateAt 42 rfl, rfl⟩
theorem dX6_stateAt_64 : vm_at cX6_stateAt 64 (.iload 5) 2 66 := ⟨vm_row tbX6_stateAt 43 rfl, rfl⟩
theorem dX6_stateAt_66 : vm_at cX6_stateAt 66 (.bipush 14) 2 68 ∧ (Int8.ofInt (14)).toInt32 = (14 : Int32) := ⟨⟨vm_row tbX6_stateAt 44 rfl, rfl⟩, z_bipush_14⟩
theorem dX6_stateAt_68 : vm_at cX6_stateAt 68 (.ishl) 1 69 := ⟨vm_row tbX6_stateAt 45 rfl, rfl⟩
theorem dX6_stateAt_69 : vm_at cX6_stateAt 69 (.ior) 1 70 := ⟨vm_row tbX6_stateAt 46 rfl, rfl⟩
theorem dX6_stateAt_70 : vm_at cX6_stateAt 70 (.iload_n 3) 1 71 ∧ ((3 : Fin 4) : Nat) = 3 := ⟨⟨vm_row tbX6_stateAt 47 rfl, rfl⟩, rfl⟩
theorem dX6_stateAt_71 : vm_at cX6_stateAt 71 (.iconst 1) 1 72 ∧ Int32.ofInt (1) = (1 : Int32) := ⟨⟨vm_row tbX6_stateAt 48 rfl, rfl⟩, z_iconst_1⟩
theorem dX6_stateAt_72 : vm_at cX6_stateAt 72 (.isub) 1 73 := ⟨vm_row tbX6_stateAt 49 rfl, rfl⟩
theorem dX6_stateAt_73 : vm_at cX6_stateAt 73 (.aload_n 0) 1 74 ∧ ((0 : Fin 4) : Nat) = 0 := ⟨⟨vm_row tbX6_stateAt 50 rfl, rfl⟩, rfl⟩
theorem dX6_stateAt_74 : vm_at cX6_stateAt 74 (.getfield 21) 3 77 := ⟨vm_row tbX6_stateAt 51 rfl, rfl⟩
theorem dX6_stateAt_77 : vm_at cX6_stateAt 77 (.irem) 1 78 := ⟨vm_row tbX6_stateAt 52 rfl, rfl⟩
theorem dX6_stateAt_78 : vm_at cX6_stateAt 78 (.bipush 7) 2 80 ∧ (Int8.ofInt (7)).toInt32 = (7 : Int32) := ⟨⟨vm_row tbX6_stateAt 53 rfl, rfl⟩, z_bipush_7⟩
theorem dX6_stateAt_80 : vm_at cX6_stateAt 80 (.ishl) 1 81 := ⟨vm_row tbX6_stateAt 54 rfl, rfl⟩
theorem dX6_stateAt_81 : vm_at cX6_stateAt 81 (.ior) 1 82 := ⟨vm_row tbX6_stateAt 55 rfl, rfl⟩
theorem dX6_stateAt_82 : vm_at cX6_stateAt 82 (.ireturn) 1 83 := ⟨vm_row tbX6_stateAt 56 rfl, rfl⟩
def tlX7_empty : List (Nat × Instr × Nat) := [(0, .aload_n 0, 1), (1, .getfield 9, 3), (4, .lconst 0, 1), (5, .invokestatic 30, 3), (8, .aload_n 0, 1), (9, .iconst 0, 1), (10, .putfield 23, 3), (13, .aload_n 0, 1), (14, .iconst 0, 1), (15, .putfield 27, 3), (18, .return_, 1)]
theorem tbX7_empty : vm_chk cX7_empty tlX7_empty = true := by decide +kernel
theorem dX7_empty_0 : vm_at cX7_empty 0 (.aload_n 0) 1 1 ∧ ((0 : Fin 4) : Nat) = 0 := ⟨⟨vm_row tbX7_empty 0 rfl, rfl⟩, rfl⟩
theorem dX7_empty_1 : vm_at cX7_empty 1 (.getfield 9) 3 4 := ⟨vm_row tbX7_empty 1 rfl, rfl⟩
theorem dX7_empty_4 : vm_at cX7_empty 4 (.lconst 0) 1 5 ∧ Int64.ofNat ((0 : Fin 2) : Nat) = (0 : Int64) := ⟨⟨vm_row tbX7_empty 2 rfl, rfl⟩, rfl⟩
theorem dX7_empty_5 : vm_at cX7_empty 5 (.invokestatic 30) 3 8 := ⟨vm_row tbX7_empty 3 rfl, rfl⟩
theorem dX7_empty_8 : vm_at cX7_empty 8 (.aload_n 0) 1 9 ∧ ((0 : Fin 4) : Nat) = 0 := ⟨⟨vm_row tbX7_empty 4 rfl, rfl⟩, rfl⟩
theorem dX7_empty_9 : vm_at cX7_empty 9 (.iconst 0) 1 10 ∧ Int32.ofInt (0) = (0 : Int32) := ⟨⟨vm_row tbX7_empty 5 rfl, rfl⟩, z_iconst_0⟩
theorem dX7_empty_10 : vm_at cX7_empty 10 (.putfield 23) 3 13 := ⟨vm_row tbX7_empty 6 rfl, rfl⟩
theorem dX7_empty_13 : vm_at cX7_empty 13 (.aload_n 0) 1 14 ∧ ((0 : Fin 4) : Nat) = 0 := ⟨⟨vm_row tbX7_empty 7 rfl, rfl⟩, rfl⟩
theorem dX7_empty_14 : vm_at cX7_empty 14 (.iconst 0) 1 15 ∧ Int32.ofInt (0) = (0 : Int32) := ⟨⟨vm_row tbX7_empty 8 rfl, rfl⟩, z_iconst_0⟩
theorem dX7_empty_15 : vm_at cX7_empty 15 (.putfield 27) 3 18 := ⟨vm_row tbX7_empty 9 rfl, rfl⟩
theorem dX7_empty_18 : vm_at cX7_empty 18 (.return_) 1 19 := ⟨vm_row tbX7_empty 10 rfl, rfl⟩
def tlX7_mark : List (Nat × Instr × Nat) := [(0, .iload_n 1, 1), (1, .bipush 6, 2), (3, .ishr, 1), (4, .istore_n 2, 1), (5, .iload_n 2, 1), (6, .ifCond .lt 10, 3), (9, .iload_n 2, 1), (10, .sipush 2048, 3), (13, .if_icmp .lt 5, 3), (16, .iconst 0, 1), (17, .ireturn, 1), (18, .lconst 1, 1), (19, .iload_n 1, 1), (20, .bipush 63, 2), (22, .iand, 1), (23, .lshl, 1), (24, .lstore_n 3, 1), (25, .aload_n 0, 1), (26, .getfield 9, 3), (29, .iload_n 2, 1), (30, .laload, 1), (31, .lload_n 3, 1), (32, .land, 1), (33, .lconst 0, 1), (34, .lcmp, 1), (35, .ifCond .eq 5, 3), (38, .iconst 0, 1), (39, .ireturn, 1), (40, .aload_n 0, 1), (41, .getfield 9, 3), (44, .iload_n 2, 1), (45, .dup2, 1), (46, .laload, 1), (47, .lload_n 3, 1), (48, .lor, 1), (49, .lastore, 1), (50, .iconst 1, 1), (51, .ireturn, 1)]
theorem tbX7_mark : vm_chk cX7_mark tlX7_mark = true := by decide +kernel
theorem dX7_mark_0 : vm_at cX7_mark 0 (.iload_n 1) 1 1 ∧ ((1 : Fin 4) : Nat) = 1 := ⟨⟨vm_row tbX7_mark 0 rfl, rfl⟩, rfl⟩
theorem dX7_mark_1 : vm_at cX7_mark 1 (.bipush 6) 2 3 ∧ (Int8.ofInt (6)).toInt32 = (6 : Int32) := ⟨⟨vm_row tbX7_mark 1 rfl, rfl⟩, z_bipush_6⟩
theorem dX7_mark_3 : vm_at cX7_mark 3 (.ishr) 1 4 := ⟨vm_row tbX7_mark 2 rfl, rfl⟩
theorem dX7_mark_4 : vm_at cX7_mark 4 (.istore_n 2) 1 5 ∧ ((2 : Fin 4) : Nat) = 2 := ⟨⟨vm_row tbX7_mark 3 rfl, rfl⟩, rfl⟩
theorem dX7_mark_5 : vm_at cX7_mark 5 (.iload_n 2) 1 6 ∧ ((2 : Fin 4) : Nat) = 2 := ⟨⟨vm_row tbX7_mark 4 rfl, rfl⟩, rfl⟩
theorem dX7_mark_6 : vm_br cX7_mark 6 (.ifCond .lt 10) 3 9 (10) 16 := ⟨vm_row tbX7_mark 5 rfl, rfl, rfl⟩
theorem dX7_mark_9 : vm_at cX7_mark 9 (.iload_n 2) 1 10 ∧ ((2 : Fin 4) : Nat) = 2 := ⟨⟨vm_row tbX7_mark 6 rfl, rfl⟩, rfl⟩
theorem dX7_mark_10 : vm_at cX7_mark 10 (.sipush 2048) 3 13 ∧ (Int16.ofInt (2048)).toInt32 = (2048 : Int32) := ⟨⟨vm_row tbX7_mark 7 rfl, rfl⟩, z_sipush_2048⟩
theorem dX7_mark_13 : vm_br cX7_mark 13 (.if_icmp .lt 5) 3 16 (5) 18 := ⟨vm_row tbX7_mark 8 rfl, rfl, rfl⟩
theorem dX7_mark_16 : vm_at cX7_mark 16 (.iconst 0) 1 17 ∧ Int32.ofInt (0) = (0 : Int32) := ⟨⟨vm_row tbX7_mark 9 rfl, rfl⟩, z_iconst_0⟩
theorem dX7_mark_17 : vm_at cX7_mark 17 (.ireturn) 1 18 := ⟨vm_row tbX7_mark 10 rfl, rfl⟩
theorem dX7_mark_18 : vm_at cX7_mark 18 (.lconst 1) 1 19 ∧ Int64.ofNat ((1 : Fin 2) : Nat) = (1 : Int64) := ⟨⟨vm_row tbX7_mark 11 rfl, rfl⟩, rfl⟩
theorem dX7_mark_19 : vm_at cX7_mark 19 (.iload_n 1) 1 20 ∧ ((1 : Fin 4) : Nat) = 1 := ⟨⟨vm_row tbX7_mark 12 rfl, rfl⟩, rfl⟩
theorem dX7_mark_20 : vm_at cX7_mark 20 (.bipush 63) 2 22 ∧ (Int8.ofInt (63)).toInt32 = (63 : Int32) := ⟨⟨vm_row tbX7_mark 13 rfl, rfl⟩, z_bipush_63⟩
theorem dX7_mark_22 : vm_at cX7_mark 22 (.iand) 1 23 := ⟨vm_row tbX7_mark 14 rfl, rfl⟩
theorem dX7_mark_23 : vm_at cX7_mark 23 (.lshl) 1 24 := ⟨vm_row tbX7_mark 15 rfl, rfl⟩
theorem dX7_mark_24 : vm_at cX7_mark 24 (.lstore_n 3) 1 25 ∧ ((3 : Fin 4) : Nat) = 3 := ⟨⟨vm_row tbX7_mark 16 rfl, rfl⟩, rfl⟩
theorem dX7_mark_25 : vm_at cX7_mark 25 (.aload_n 0) 1 26 ∧ ((0 : Fin 4) : Nat) = 0 := ⟨⟨vm_row tbX7_mark 17 rfl, rfl⟩, rfl⟩
theorem dX7_mark_26 : vm_at cX7_mark 26 (.getfield 9) 3 29 := ⟨vm_row tbX7_mark 18 rfl, rfl⟩
theorem dX7_mark_29 : vm_at cX7_mark 29 (.iload_n 2) 1 30 ∧ ((2 : Fin 4) : Nat) = 2 := ⟨⟨vm_row tbX7_mark 19 rfl, rfl⟩, rfl⟩
theorem dX7_mark_30 : vm_at cX7_mark 30 (.laload) 1 31 := ⟨vm_row tbX7_mark 20 rfl, rfl⟩
theorem dX7_mark_31 : vm_at cX7_mark 31 (.lload_n 3) 1 32 ∧ ((3 : Fin 4) : Nat) = 3 := ⟨⟨vm_row tbX7_mark 21 rfl, rfl⟩, rfl⟩
theorem dX7_mark_32 : vm_at cX7_mark 32 (.land) 1 33 := ⟨vm_row tbX7_mark 22 rfl, rfl⟩
theorem dX7_mark_33 : vm_at cX7_mark 33 (.lconst 0) 1 34 ∧ Int64.ofNat ((0 : Fin 2) : Nat) = (0 : Int64) := ⟨⟨vm_row tbX7_mark 23 rfl, rfl⟩, rfl⟩
theorem dX7_mark_34 : vm_at cX7_mark 34 (.lcmp) 1 35 := ⟨vm_row tbX7_mark 24 rfl, rfl⟩
theorem dX7_mark_35 : vm_br cX7_mark 35 (.ifCond .eq 5) 3 38 (5) 40 := ⟨vm_row tbX7_mark 25 rfl, rfl, rfl⟩
theorem dX7_mark_38 : vm_at cX7_mark 38 (.iconst 0) 1 39 ∧ Int32.ofInt (0) = (0 : Int32) := ⟨⟨vm_row tbX7_mark 26 rfl, rfl⟩, z_iconst_0⟩
theorem dX7_mark_39 : vm_at cX7_mark 39 (.ireturn) 1 40 := ⟨vm_row tbX7_mark 27 rfl, rfl⟩
theorem dX7_mark_40 : vm_at cX7_mark 40 (.aload_n 0) 1 41 ∧ ((0 : Fin 4) : Nat) = 0 := ⟨⟨vm_row tbX7_mark 28 rfl, rfl⟩, rfl⟩
theorem dX7_mark_41 : vm_at cX7_mark 41 (.getfield 9) 3 44 := ⟨vm_row tbX7_mark 29 rfl, rfl⟩
theorem dX7_mark_44 : vm_at cX7_mark 44 (.iload_n 2) 1 45 ∧ ((2 : Fin 4) : Nat) = 2 := ⟨⟨vm_row tbX7_mark 30 rfl, rfl⟩, rfl⟩
theorem dX7_mark_45 : vm_at cX7_mark 45 (.dup2) 1 46 := ⟨vm_row tbX7_mark 31 rfl, rfl⟩
theorem dX7_mark_46 : vm_at cX7_mark 46 (.laload) 1 47 := ⟨vm_row tbX7_mark 32 rfl, rfl⟩
theorem dX7_mark_47 : vm_at cX7_mark 47 (.lload_n 3) 1 48 ∧ ((3 : Fin 4) : Nat) = 3 := ⟨⟨vm_row tbX7_mark 33 rfl, rfl⟩, rfl⟩
theorem dX7_mark_48 : vm_at cX7_mark 48 (.lor) 1 49 := ⟨vm_row tbX7_mark 34 rfl, rfl⟩
theorem dX7_mark_49 : vm_at cX7_mark 49 (.lastore) 1 50 := ⟨vm_row tbX7_mark 35 rfl, rfl⟩
theorem dX7_mark_50 : vm_at cX7_mark 50 (.iconst 1) 1 51 ∧ Int32.ofInt (1) = (1 : Int32) := ⟨⟨vm_row tbX7_mark 36 rfl, rfl⟩, z_iconst_1⟩
theorem dX7_mark_51 : vm_at cX7_mark 51 (.ireturn) 1 52 := ⟨vm_row tbX7_mark 37 rfl, rfl⟩
def tlX7_append : List (Nat × Instr × Nat) := [(0, .aload_n 0, 1), (1, .getfield 23, 3), (4, .ifCond .lt 42, 3), (7, .aload_n 0, 1), (8, .getfield 23, 3), (11, .ldc 15, 2), (13, .if_icmp .ge 33, 3), (16, .aload_n 0, 1), (17, .getfield 16, 3), (20, .aload_n 0, 1), (21, .getfield 23, 3), (24, .iload_n 1, 1), (25, .iastore, 1), (26, .aload_n 0, 1), (27, .getfield 20, 3), (30, .aload_n 0, 1), (31, .getfield 23, 3), (34, .iload_n 2, 1), (35, .iastore, 1), (36, .aload_n 0, 1), (37, .dup, 1), (38, .getfield 23, 3), (41, .iconst 1, 1), (42, .iadd, 1), (43, .putfield 23, 3), (46, .return_, 1)]
theorem tbX7_append : vm_chk cX7_append tlX7_append = true := by decide +kernel
theorem dX7_append_0 : vm_at cX7_append 0 (.aload_n 0) 1 1 ∧ ((0 : Fin 4) : Nat) = 0 := ⟨⟨vm_row tbX7_append 0 rfl, rfl⟩, rfl⟩
theorem dX7_append_1 : vm_at cX7_append 1 (.getfield 23) 3 4 := ⟨vm_row tbX7_append 1 rfl, rfl⟩
theorem dX7_append_4 : vm_br cX7_append 4 (.ifCond .lt 42) 3 7 (42) 46 := ⟨vm_row tbX7_append 2 rfl, rfl, rfl⟩
theorem dX7_append_7 : vm_at cX7_append 7 (.aload_n 0) 1 8 ∧ ((0 : Fin 4) : Nat) = 0 := ⟨⟨vm_row tbX7_append 3 rfl, rfl⟩, rfl⟩
theorem dX7_append_8 : vm_at cX7_append 8 (.getfield 23) 3 11 := ⟨vm_row tbX7_append 4 rfl, rfl⟩
theorem dX7_append_11 : vm_at cX7_append 11 (.ldc 15) 2 13 := ⟨vm_row tbX7_append 5 rfl, rfl⟩
theorem dX7_append_13 : vm_br cX7_append 13 (.if_icmp .ge 33) 3 16 (33) 46 := ⟨vm_row tbX7_append 6 rfl, rfl, rfl⟩
theorem dX7_append_16 : vm_at cX7_append 16 (.aload_n 0) 1 17 ∧ ((0 : Fin 4) : Nat) = 0 := ⟨⟨vm_row tbX7_append 7 rfl, rfl⟩, rfl⟩
theorem dX7_append_17 : vm_at cX7_append 17 (.getfield 16) 3 20 := ⟨vm_row tbX7_append 8 rfl, rfl⟩
theorem dX7_append_20 : vm_at cX7_append 20 (.aload_n 0) 1 21 ∧ ((0 : Fin 4) : Nat) = 0 := ⟨⟨vm_row tbX7_append 9 rfl, rfl⟩, rfl⟩
theorem dX7_append_21 : vm_at cX7_append 21 (.getfield 23) 3 24 := ⟨vm_row tbX7_append 10 rfl, rfl⟩
theorem dX7_append_24 : vm_at cX7_append 24 (.iload_n 1) 1 25 ∧ ((1 : Fin 4) : Nat) = 1 := ⟨⟨vm_row tbX7_append 11 rfl, rfl⟩, rfl⟩
theorem dX7_append_25 : vm_at cX7_append 25 (.iastore) 1 26 := ⟨vm_row tbX7_append 12 rfl, rfl⟩
theorem dX7_append_26 : vm_at cX7_append 26 (.aload_n 0) 1 27 ∧ ((0 : Fin 4) : Nat) = 0 := ⟨⟨vm_row tbX7_append 13 rfl, rfl⟩, rfl⟩
theorem dX7_append_27 : vm_at cX7_append 27 (.getfield 20) 3 30 := ⟨vm_row tbX7_append 14 rfl, rfl⟩
theorem dX7_append_30 : vm_at cX7_append 30 (.aload_n 0) 1 31 ∧ ((0 : Fin 4) : Nat) = 0 := ⟨⟨vm_row tbX7_append 15 rfl, rfl⟩, rfl⟩
theorem dX7_append_31 : vm_at cX7_append 31 (.getfield 23) 3 34 := ⟨vm_row tbX7_append 16 rfl, rfl⟩
theorem dX7_append_34 : vm_at cX7_append 34 (.iload_n 2) 1 35 ∧ ((2 : Fin 4) : Nat) = 2 := ⟨⟨vm_row tbX7_append 17 rfl, rfl⟩, rfl⟩
theorem dX7_append_35 : vm_at cX7_append 35 (.iastore) 1 36 := ⟨vm_row tbX7_append 18 rfl, rfl⟩
theorem dX7_append_36 : vm_at cX7_append 36 (.aload_n 0) 1 37 ∧ ((0 : Fin 4) : Nat) = 0 := ⟨⟨vm_row tbX7_append 19 rfl, rfl⟩, rfl⟩
theorem dX7_append_37 : vm_at cX7_append 37 (.dup) 1 38 := ⟨vm_row tbX7_append 20 rfl, rfl⟩
theorem dX7_append_38 : vm_at cX7_append 38 (.getfield 23) 3 41 := ⟨vm_row tbX7_append 21 rfl, rfl⟩
theorem dX7_append_41 : vm_at cX7_append 41 (.iconst 1) 1 42 ∧ Int32.ofInt (1) = (1 : Int32) := ⟨⟨vm_row tbX7_append 22 rfl, rfl⟩, z_iconst_1⟩
theorem dX7_append_42 : vm_at cX7_append 42 (.iadd) 1 43 := ⟨vm_row tbX7_append 23 rfl, rfl⟩
theorem dX7_append_43 : vm_at cX7_append 43 (.putfield 23) 3 46 := ⟨vm_row tbX7_append 24 rfl, rfl⟩
theorem dX7_append_46 : vm_at cX7_append 46 (.return_) 1 47 := ⟨vm_row tbX7_append 25 rfl, rfl⟩
def tlX8_forgetSteps : List (Nat × Instr × Nat) := [(0, .aload_n 0, 1), (1, .iconst 0, 1), (2, .putfield 25, 3), (5, .aload_n 0, 1), (6, .getfield 41, 3), (9, .iconst 0, 1), (10, .putfield 47, 3), (13, .return_, 1)]
theorem tbX8_forgetSteps : vm_chk cX8_forgetSteps tlX8_forgetSteps = true := by decide +kernel
theorem dX8_forgetSteps_0 : vm_at cX8_forgetSteps 0 (.aload_n 0) 1 1 ∧ ((0 : Fin 4) : Nat) = 0 := ⟨⟨vm_row tbX8_forgetSteps 0 rfl, rfl⟩, rfl⟩
theorem dX8_forgetSteps_1 : vm_at cX8_forgetSteps 1 (.iconst 0) 1 2 ∧ Int32.ofInt (0) = (0 : Int32) := ⟨⟨vm_row tbX8_forgetSteps 1 rfl, rfl⟩, z_iconst_0⟩
theorem dX8_forgetSteps_2 : vm_at cX8_forgetSteps 2 (.putfield 25) 3 5 := ⟨vm_row tbX8_forgetSteps 2 rfl, rfl⟩
theorem dX8_forgetSteps_5 : vm_at cX8_forgetSteps 5 (.aload_n 0) 1 6 ∧ ((0 : Fin 4) : Nat) = 0 := ⟨⟨vm_row tbX8_forgetSteps 3 rfl, rfl⟩, rfl⟩
theorem dX8_forgetSteps_6 : vm_at cX8_forgetSteps 6 (.getfield 41) 3 9 := ⟨vm_row tbX8_forgetSteps 4 rfl, rfl⟩
theorem dX8_forgetSteps_9 : vm_at cX8_forgetSteps 9 (.iconst 0) 1 10 ∧ Int32.ofInt (0) = (0 : Int32) := ⟨⟨vm_row tbX8_forgetSteps 5 rfl, rfl⟩, z_iconst_0⟩
theorem dX8_forgetSteps_10 : vm_at cX8_forgetSteps 10 (.putfield 47) 3 13 := ⟨vm_row tbX8_forgetSteps 6 rfl, rfl⟩
theorem dX8_forgetSteps_13 : vm_at cX8_forgetSteps 13 (.return_) 1 14 := ⟨vm_row tbX8_forgetSteps 7 rfl, rfl⟩
def tlX8_forgetMore : List (Nat × Instr × Nat) := [(0, .aload_n 0, 1), (1, .iconst 0, 1), (2, .putfield 29, 3), (5, .return_, 1)]
theorem tbX8_forgetMore : vm_chk cX8_forgetMore tlX8_forgetMore = true := by decide +kernel
theorem dX8_forgetMore_0 : vm_at cX8_forgetMore 0 (.aload_n 0) 1 1 ∧ ((0 : Fin 4) : Nat) = 0 := ⟨⟨vm_row tbX8_forgetMore 0 rfl, rfl⟩, rfl⟩
theorem dX8_forgetMore_1 : vm_at cX8_forgetMore 1 (.iconst 0) 1 2 ∧ Int32.ofInt (0) = (0 : Int32) := ⟨⟨vm_row tbX8_forgetMore 1 rfl, rfl⟩, z_iconst_0⟩
theorem dX8_forgetMore_2 : vm_at cX8_forgetMore 2 (.putfield 29) 3 5 := ⟨vm_row tbX8_forgetMore 2 rfl, rfl⟩
theorem dX8_forgetMore_5 : vm_at cX8_forgetMore 5 (.return_) 1 6 := ⟨vm_row tbX8_forgetMore 3 rfl, rfl⟩
def tlX8_learn : List (Nat × Instr × Nat) := [(0, .aload_n 0, 1), (1, .getfield 25, 3), (4, .ifCond .ne 38, 3), (7, .aload_n 0, 1), (8, .getfield 18, 3), (11, .iconst 1, 1), (12, .invokestatic 50, 3), (15, .aload_n 0, 1), (16, .aload_n 1, 1), (17, .getfield 56, 3), (20, .putfield 21, 3), (23, .aload_n 0, 1), (24, .aload_n 1, 1), (25, .iload_n 2, 1), (26, .invokevirtual 61, 3), (29, .aload_n 0, 1), (30, .getfield 41, 3), (33, .iconst 1, 1), (34, .putfield 47, 3), (37, .aload_n 0, 1), (38, .iconst 1, 1), (39, .putfield 25, 3), (42, .return_, 1)]
theorem tbX8_learn : vm_chk cX8_learn tlX8_learn = true := by decide +kernel
theorem dX8_learn_0 : vm_at cX8_learn 0 (.aload_n 0) 1 1 ∧ ((0 : Fin 4) : Nat) = 0 := ⟨⟨vm_row tbX8_learn 0 rfl, rfl⟩, rfl⟩
theorem dX8_learn_1 : vm_at cX8_learn 1 (.getfield 25) 3 4 := ⟨vm_row tbX8_learn 1 rfl, rfl⟩
theorem dX8_learn_4 : vm_br cX8_learn 4 (.ifCond .ne 38) 3 7 (38) 42 := ⟨vm_row tbX8_learn 2 rfl, rfl, rfl⟩
theorem dX8_learn_7 : vm_at cX8_learn 7 (.aload_n 0) 1 8 ∧ ((0 : Fin 4) : Nat) = 0 := ⟨⟨vm_row tbX8_learn 3 rfl, rfl⟩, rfl⟩
theorem dX8_learn_8 : vm_at cX8_learn 8 (.getfield 18) 3 11 := ⟨vm_row tbX8_learn 4 rfl, rfl⟩
theorem dX8_learn_11 : vm_at cX8_learn 11 (.iconst 1) 1 12 ∧ Int32.ofInt (1) = (1 : Int32) := ⟨⟨vm_row tbX8_learn 5 rfl, rfl⟩, z_iconst_1⟩
theorem dX8_learn_12 : vm_at cX8_learn 12 (.invokestatic 50) 3 15 := ⟨vm_row tbX8_learn 6 rfl, rfl⟩
theorem dX8_learn_15 : vm_at cX8_learn 15 (.aload_n 0) 1 16 ∧ ((0 : Fin 4) : Nat) = 0 := ⟨⟨vm_row tbX8_learn 7 rfl, rfl⟩, rfl⟩
theorem dX8_learn_16 : vm_at cX8_learn 16 (.aload_n 1) 1 17 ∧ ((1 : Fin 4) : Nat) = 1 := ⟨⟨vm_row tbX8_learn 8 rfl, rfl⟩, rfl⟩
theorem dX8_learn_17 : vm_at cX8_learn 17 (.getfield 56) 3 20 := ⟨vm_row tbX8_learn 9 rfl, rfl⟩
theorem dX8_learn_20 : vm_at cX8_learn 20 (.putfield 21) 3 23 := ⟨vm_row tbX8_learn 10 rfl, rfl⟩
theorem dX8_learn_23 : vm_at cX8_learn 23 (.aload_n 0) 1 24 ∧ ((0 : Fin 4) : Nat) = 0 := ⟨⟨vm_row tbX8_learn 11 rfl, rfl⟩, rfl⟩
theorem dX8_learn_24 : vm_at cX8_learn 24 (.aload_n 1) 1 25 ∧ ((1 : Fin 4) : Nat) = 1 := ⟨⟨vm_row tbX8_learn 12 rfl, rfl⟩, rfl⟩
theorem dX8_learn_25 : vm_at cX8_learn 25 (.iload_n 2) 1 26 ∧ ((2 : Fin 4) : Nat) = 2 := ⟨⟨vm_row tbX8_learn 13 rfl, rfl⟩, rfl⟩
theorem dX8_learn_26 : vm_at cX8_learn 26 (.invokevirtual 61) 3 29 := ⟨vm_row tbX8_learn 14 rfl, rfl⟩
theorem dX8_learn_29 : vm_at cX8_learn 29 (.aload_n 0) 1 30 ∧ ((0 : Fin 4) : Nat) = 0 := ⟨⟨vm_row tbX8_learn 15 rfl, rfl⟩, rfl⟩
theorem dX8_learn_30 : vm_at cX8_learn 30 (.getfield 41) 3 33 := ⟨vm_row tbX8_learn 16 rfl, rfl⟩
theorem dX8_learn_33 : vm_at cX8_learn 33 (.iconst 1) 1 34 ∧ Int32.ofInt (1) = (1 : Int32) := ⟨⟨vm_row tbX8_learn 17 rfl, rfl⟩, z_iconst_1⟩
theorem dX8_learn_34 : vm_at cX8_learn 34 (.putfield 47) 3 37 := ⟨vm_row tbX8_learn 18 rfl, rfl⟩
theorem dX8_learn_37 : vm_at cX8_learn 37 (.aload_n 0) 1 38 ∧ ((0 : Fin 4) : Nat) = 0 := ⟨⟨vm_row tbX8_learn 19 rfl, rfl⟩, rfl⟩
theorem dX8_learn_38 : vm_at cX8_learn 38 (.iconst 1) 1 39 ∧ Int32.ofInt (1) = (1 : Int32) := ⟨⟨vm_row tbX8_learn 20 rfl, rfl⟩, z_iconst_1⟩
theorem dX8_learn_39 : vm_at cX8_learn 39 (.putfield 25) 3 42 := ⟨vm_row tbX8_learn 21 rfl, rfl⟩
theorem dX8_learn_42 : vm_at cX8_learn 42 (.return_) 1 43 := ⟨vm_row tbX8_learn 22 rfl, rfl⟩
def tlX8_learnWays : List (Nat × Instr × Nat) := [(0, .aload_n 0, 1), (1, .getfield 41, 3), (4, .getfield 47, 3), (7, .iconst 1, 1), (8, .if_icmp .eq 8, 3), (11, .aload_n 0, 1), (12, .iconst 0, 1), (13, .putfield 25, 3), (16, .aload_n 0, 1), (17, .aload_n 1, 1), (18, .iload_n 2, 1), (19, .invokevirtual 65, 3), (22, .return_, 1)]
theorem tbX8_learnWays : vm_chk cX8_learnWays tlX8_learnWays = true := by decide +kernel
theorem dX8_learnWays_0 : vm_at cX8_learnWays 0 (.aload_n 0) 1 1 ∧ ((0 : Fin 4) : Nat) = 0 := ⟨⟨vm_row tbX8_learnWays 0 rfl, rfl⟩, rfl⟩
theorem dX8_learnWays_1 : vm_at cX8_learnWays 1 (.getfield 41) 3 4 := ⟨vm_row tbX8_learnWays 1 rfl, rfl⟩
theorem dX8_learnWays_4 : vm_at cX8_learnWays 4 (.getfield 47) 3 7 := ⟨vm_row tbX8_learnWays 2 rfl, rfl⟩
theorem dX8_learnWays_7 : vm_at cX8_learnWays 7 (.iconst 1) 1 8 ∧ Int32.ofInt (1) = (1 : Int32) := ⟨⟨vm_row tbX8_learnWays 3 rfl, rfl⟩, z_iconst_1⟩
theorem dX8_learnWays_8 : vm_br cX8_learnWays 8 (.if_icmp .eq 8) 3 11 (8) 16 := ⟨vm_row tbX8_learnWays 4 rfl, rfl, rfl⟩
theorem dX8_learnWays_11 : vm_at cX8_learnWays 11 (.aload_n 0) 1 12 ∧ ((0 : Fin 4) : Nat) = 0 := ⟨⟨vm_row tbX8_learnWays 5 rfl, rfl⟩, rfl⟩
theorem dX8_learnWays_12 : vm_at cX8_learnWays 12 (.iconst 0) 1 13 ∧ Int32.ofInt (0) = (0 : Int32) := ⟨⟨vm_row tbX8_learnWays 6 rfl, rfl⟩, z_iconst_0⟩
theorem dX8_learnWays_13 : vm_at cX8_learnWays 13 (.putfield 25) 3 16 := ⟨vm_row tbX8_learnWays 7 rfl, rfl⟩
theorem dX8_learnWays_16 : vm_at cX8_learnWays 16 (.aload_n 0) 1 17 ∧ ((0 : Fin 4) : Nat) = 0 := ⟨⟨vm_row tbX8_learnWays 8 rfl, rfl⟩, rfl⟩
theorem dX8_learnWays_17 : vm_at cX8_learnWays 17 (.aload_n 1) 1 18 ∧ ((1 : Fin 4) : Nat) = 1 := ⟨⟨vm_row tbX8_learnWays 9 rfl, rfl⟩, rfl⟩
theorem dX8_learnWays_18 : vm_at cX8_learnWays 18 (.iload_n 2) 1 19 ∧ ((2 : Fin 4) : Nat) = 2 := ⟨⟨vm_row tbX8_learnWays 10 rfl, rfl⟩, rfl⟩
theorem dX8_learnWays_19 : vm_at cX8_learnWays 19 (.invokevirtual 65) 3 22 := ⟨vm_row tbX8_learnWays 11 rfl, rfl⟩
theorem dX8_learnWays_22 : vm_at cX8_learnWays 22 (.return_) 1 23 := ⟨vm_row tbX8_learnWays 12 rfl, rfl⟩
def tlX8_to : List (Nat × Instr × Nat) := [(0, .aload_n 0, 1), (1, .getfield 9, 3), (4, .iload_n 1, 1), (5, .invokestatic 68, 3), (8, .ireturn, 1)]
theorem tbX8_to : vm_chk cX8_to tlX8_to = true := by decide +kernel
theorem dX8_to_0 : vm_at cX8_to 0 (.aload_n 0) 1 1 ∧ ((0 : Fin 4) : Nat) = 0 := ⟨⟨vm_row tbX8_to 0 rfl, rfl⟩, rfl⟩
theorem dX8_to_1 : vm_at cX8_to 1 (.getfield 9) 3 4 := ⟨vm_row tbX8_to 1 rfl, rfl⟩
theorem dX8_to_4 : vm_at cX8_to 4 (.iload_n 1) 1 5 ∧ ((1 : Fin 4) : Nat) = 1 := ⟨⟨vm_row tbX8_to 2 rfl, rfl⟩, rfl⟩
theorem dX8_to_5 : vm_at cX8_to 5 (.invokestatic 68) 3 8 := ⟨vm_row tbX8_to 3 rfl, rfl⟩
theorem dX8_to_8 : vm_at cX8_to 8 (.ireturn) 1 9 := ⟨vm_row tbX8_to 4 rfl, rfl⟩
def tlX8_keyOfWay : List (Nat × Instr × Nat) := [(0, .aload_n 0, 1), (1, .iload_n 1, 1), (2, .invokevirtual 72, 3), (5, .istore_n 3, 1), (6, .iload_n 2, 1), (7, .ifCond .lt 8, 3), (10, .iload_n 2, 1), (11, .iload_n 3, 1), (12, .if_icmp .lt 5, 3), (15, .iconst (-1), 1), (16, .ireturn, 1), (17, .aload_n 0, 1), (18, .getfield 15, 3), (21, .iload_n 1, 1), (22, .invokestatic 68, 3), (25, .istore 4, 2), (27, .iload_n 3, 1), (28, .iconst 1, 1), (29, .isub, 1), (30, .istore 5, 2), (32, .iload 5, 2), (34, .iload_n 2, 1), (35, .if_icmp .le 25, 3), (38, .aload_n 0, 1), (39, .getfield 41, 3), (42, .getfield 76, 3), (45, .iload 4, 2), (47, .invokestatic 68, 3), (50, .iconst 4, 1), (51, .ishr, 1), (52, .istore 4, 2), (54, .iinc 5 (-1), 3), (57, .goto (-25), 3), (60, .aload_n 0, 1), (61, .getfield 41, 3), (64, .getfield 76, 3), (67, .iload 4, 2), (69, .invokestatic 68, 3), (72, .bipush 15, 2), (74, .iand, 1), (75, .ireturn, 1)]
theorem tbX8_keyOfWay : vm_chk cX8_keyOfWay tlX8_keyOfWay = true := by decide +kernel
theorem dX8_keyOfWay_0 : vm_at cX8_keyOfWay 0 (.aload_n 0) 1 1 ∧ ((0 : Fin 4) : Nat) = 0 := ⟨⟨vm_row tbX8_keyOfWay 0 rfl, rfl⟩, rfl⟩
theorem dX8_keyOfWay_1 : vm_at cX8_keyOfWay 1 (.iload_n 1) 1 2 ∧ ((1 : Fin 4) : Nat) = 1 := ⟨⟨vm_row tbX8_keyOfWay 1 rfl, rfl⟩, rfl⟩
theorem dX8_keyOfWay_2 : vm_at cX8_keyOfWay 2 (.invokevirtual 72) 3 5 := ⟨vm_row tbX8_keyOfWay 2 rfl, rfl⟩
theorem dX8_keyOfWay_5 : vm_at cX8_keyOfWay 5 (.istore_n 3) 1 6 ∧ ((3 : Fin 4) : Nat) = 3 := ⟨⟨vm_row tbX8_keyOfWay 3 rfl, rfl⟩, rfl⟩
theorem dX8_keyOfWay_6 : vm_at cX8_keyOfWay 6 (.iload_n 2) 1 7 ∧ ((2 : Fin 4) : Nat) = 2 := ⟨⟨vm_row tbX8_keyOfWay 4 rfl, rfl⟩, rfl⟩
theorem dX8_keyOfWay_7 : vm_br cX8_keyOfWay 7 (.ifCond .lt 8) 3 10 (8) 15 := ⟨vm_row tbX8_keyOfWay 5 rfl, rfl, rfl⟩
theorem dX8_keyOfWay_10 : vm_at cX8_keyOfWay 10 (.iload_n 2) 1 11 ∧ ((2 : Fin 4) : Nat) = 2 := ⟨⟨vm_row tbX8_keyOfWay 6 rfl, rfl⟩, rfl⟩
theorem dX8_keyOfWay_11 : vm_at cX8_keyOfWay 11 (.iload_n 3) 1 12 ∧ ((3 : Fin 4) : Nat) = 3 := ⟨⟨vm_row tbX8_keyOfWay 7 rfl, rfl⟩, rfl⟩
theorem dX8_keyOfWay_12 : vm_br cX8_keyOfWay 12 (.if_icmp .lt 5) 3 15 (5) 17 := ⟨vm_row tbX8_keyOfWay 8 rfl, rfl, rfl⟩
theorem dX8_keyOfWay_15 : vm_at cX8_keyOfWay 15 (.iconst (-1)) 1 16 ∧ Int32.ofInt (-1) = (-1 : Int32) := ⟨⟨vm_row tbX8_keyOfWay 9 rfl, rfl⟩, z_iconst_m1⟩
theorem dX8_keyOfWay_16 : vm_at cX8_keyOfWay 16 (.ireturn) 1 17 := ⟨vm_row tbX8_keyOfWay 10 rfl, rfl⟩
theorem dX8_keyOfWay_17 : vm_at cX8_keyOfWay 17 (.aload_n 0) 1 18 ∧ ((0 : Fin 4) : Nat) = 0 := ⟨⟨vm_row tbX8_keyOfWay 11 rfl, rfl⟩, rfl⟩
theorem dX8_keyOfWay_18 : vm_at cX8_keyOfWay 18 (.getfield 15) 3 21 := ⟨vm_row tbX8_keyOfWay 12 rfl, rfl⟩
theorem dX8_keyOfWay_21 : vm_at cX8_keyOfWay 21 (.iload_n 1) 1 22 ∧ ((1 : Fin 4) : Nat) = 1 := ⟨⟨vm_row tbX8_keyOfWay 13 rfl, rfl⟩, rfl⟩
theorem dX8_keyOfWay_22 : vm_at cX8_keyOfWay 22 (.invokestatic 68) 3 25 := ⟨vm_row tbX8_keyOfWay 14 rfl, rfl⟩
theorem dX8_keyOfWay_25 : vm_at cX8_keyOfWay 25 (.istore 4) 2 27 := ⟨vm_row tbX8_keyOfWay 15 rfl, rfl⟩
theorem dX8_keyOfWay_27 : vm_at cX8_keyOfWay 27 (.iload_n 3) 1 28 ∧ ((3 : Fin 4) : Nat) = 3 := ⟨⟨vm_row tbX8_keyOfWay 16 rfl, rfl⟩, rfl⟩
theorem dX8_keyOfWay_28 : vm_at cX8_keyOfWay 28 (.iconst 1) 1 29 ∧ Int32.ofInt (1) = (1 : Int32) := ⟨⟨vm_row tbX8_keyOfWay 17 rfl, rfl⟩, z_iconst_1⟩
theorem dX8_keyOfWay_29 : vm_at cX8_keyOfWay 29 (.isub) 1 30 := ⟨vm_row tbX8_keyOfWay 18 rfl, rfl⟩
theorem dX8_keyOfWay_30 : vm_at cX8_keyOfWay 30 (.istore 5) 2 32 := ⟨vm_row tbX8_keyOfWay 19 rfl, rfl⟩
theorem dX8_keyOfWay_32 : vm_at cX8_keyOfWay 32 (.iload 5) 2 34 := ⟨vm_row tbX8_keyOfWay 20 rfl, rfl⟩
theorem dX8_keyOfWay_34 : vm_at cX8_keyOfWay 34 (.iload_n 2) 1 35 ∧ ((2 : Fin 4) : Nat) = 2 := ⟨⟨vm_row tbX8_keyOfWay 21 rfl, rfl⟩, rfl⟩
theorem dX8_keyOfWay_35 : vm_br cX8_keyOfWay 35 (.if_icmp .le 25) 3 38 (25) 60 := ⟨vm_row tbX8_keyOfWay 22 rfl, rfl, rfl⟩
theorem dX8_keyOfWay_38 : vm_at cX8_keyOfWay 38 (.aload_n 0) 1 39 ∧ ((0 : Fin 4) : Nat) = 0 := ⟨⟨vm_row tbX8_keyOfWay 23 rfl, rfl⟩, rfl⟩
theorem dX8_keyOfWay_39 : vm_at cX8_keyOfWay 39 (.getfield 41) 3 42 := ⟨vm_row tbX8_keyOfWay 24 rfl, rfl⟩
theorem dX8_keyOfWay_42 : vm_at cX8_keyOfWay 42 (.getfield 76) 3 45 := ⟨vm_row tbX8_keyOfWay 25 rfl, rfl⟩
theorem dX8_keyOfWay_45 : vm_at cX8_keyOfWay 45 (.iload 4) 2 47 := ⟨vm_row tbX8_keyOfWay 26 rfl, rfl⟩
theorem dX8_keyOfWay_47 : vm_at cX8_keyOfWay 47 (.invokestatic 68) 3 50 := ⟨vm_row tbX8_keyOfWay 27 rfl, rfl⟩
theorem dX8_keyOfWay_50 : vm_at cX8_keyOfWay 50 (.iconst 4) 1 51 ∧ Int32.ofInt (4) = (4 : Int32) := ⟨⟨vm_row tbX8_keyOfWay 28 rfl, rfl⟩, z_iconst_4⟩
theorem dX8_keyOfWay_51 : vm_at cX8_keyOfWay 51 (.ishr) 1 52 := ⟨vm_row tbX8_keyOfWay 29 rfl, rfl⟩
theorem dX8_keyOfWay_52 : vm_at cX8_keyOfWay 52 (.istore 4) 2 54 := ⟨vm_row tbX8_keyOfWay 30 rfl, rfl⟩
theorem dX8_keyOfWay_54 : vm_at cX8_keyOfWay 54 (.iinc 5 (-1)) 3 57 ∧ Int32.ofInt (-1) = (-1 : Int32) := ⟨⟨vm_row tbX8_keyOfWay 31 rfl, rfl⟩, z_iconst_m1⟩
theorem dX8_keyOfWay_57 : vm_br cX8_keyOfWay 57 (.goto (-25)) 3 60 (-25) 32 := ⟨vm_row tbX8_keyOfWay 32 rfl, rfl, rfl⟩
theorem dX8_keyOfWay_60 : vm_at cX8_keyOfWay 60 (.aload_n 0) 1 61 ∧ ((0 : Fin 4) : Nat) = 0 := ⟨⟨vm_row tbX8_keyOfWay 33 rfl, rfl⟩, rfl⟩
theorem dX8_keyOfWay_61 : vm_at cX8_keyOfWay 61 (.getfield 41) 3 64 := ⟨vm_row tbX8_keyOfWay 34 rfl, rfl⟩
theorem dX8_keyOfWay_64 : vm_at cX8_keyOfWay 64 (.getfield 76) 3 67 := ⟨vm_row tbX8_keyOfWay 35 rfl, rfl⟩
theorem dX8_keyOfWay_67 : vm_at cX8_keyOfWay 67 (.iload 4) 2 69 := ⟨vm_row tbX8_keyOfWay 36 rfl, rfl⟩
theorem dX8_keyOfWay_69 : vm_at cX8_keyOfWay 69 (.invokestatic 68) 3 72 := ⟨vm_row tbX8_keyOfWay 37 rfl, rfl⟩
theorem dX8_keyOfWay_72 : vm_at cX8_keyOfWay 72 (.bipush 15) 2 74 ∧ (Int8.ofInt (15)).toInt32 = (15 : Int32) := ⟨⟨vm_row tbX8_keyOfWay 38 rfl, rfl⟩, z_bipush_15⟩
theorem dX8_keyOfWay_74 : vm_at cX8_keyOfWay 74 (.iand) 1 75 := ⟨vm_row tbX8_keyOfWay 39 rfl, rfl⟩
theorem dX8_keyOfWay_75 : vm_at cX8_keyOfWay 75 (.ireturn) 1 76 := ⟨vm_row tbX8_keyOfWay 40 rfl, rfl⟩
def tlX8_spread : List (Nat × Instr × Nat) := [(0, .aload_n 0, 1), (1, .getfield 41, 3), (4, .invokevirtual 79, 3), (7, .aload_n 0, 1), (8, .getfield 9, 3), (11, .iconst (-1), 1), (12, .invokestatic 50, 3), (15, .aload_n 0, 1), (16, .iload_n 2, 1), (17, .iconst (-1), 1), (18, .iconst 0, 1), (19, .invokevirtual 82, 3), (22, .iconst 1, 1), (23, .istore_n 3, 1), (24, .iconst 1, 1), (25, .istore 4, 2), (27, .iconst 0, 1), (28, .istore 5, 2), (30, .iload 5, 2), (32, .ldc 86, 2), (34, .if_icmp .ge 102, 3), (37, .iload 5, 2), (39, .aload_n 0, 1), (40, .getfield 41, 3), (43, .getfield 87, 3), (46, .if_icmp .ge 90, 3), (49, .aload_n 0, 1), (50, .getfield 21, 3), (53, .ifCond .gt 6, 3), (56, .goto 80, 3), (59, .iload 5, 2), (61, .iload 4, 2), (63, .if_icmp .ne 15, 3), (66, .iinc 3 1, 3), (69, .aload_n 0, 1), (70, .getfield 41, 3), (73, .getfield 87, 3), (76, .istore 4, 2), (78, .aload_n 0, 1), (79, .getfield 41, 3), (82, .getfield 90, 3), (85, .iload 5, 2), (87, .invokestatic 68, 3), (90, .istore 6, 2), (92, .iconst 0, 1), (93, .istore 7, 2), (95, .iload 7, 2), (97, .aload_n 1, 1), (98, .getfield 93, 3), (101, .if_icmp .ge 29, 3), (104, .aload_n 0, 1), (105, .aload_n 1, 1), (106, .iload 6, 2), (108, .iload 7, 2), (110, .invokevirtual 96, 3), (113, .iload 5, 2), (115, .iconst 4, 1), (116, .ishl, 1), (117, .iload 7, 2), (119, .ior, 1), (120, .iload_n 3, 1), (121, .invokevirtual 82, 3), (124, .iinc 7 1, 3), (127, .goto (-32), 3), (130, .iinc 5 1, 3), (133, .goto (-103), 3), (136, .return_, 1)]
theorem tbX8_spread : vm_chk cX8_spread tlX8_spread = true := by decide +kernel
theorem dX8_spread_0 : vm_at cX8_spread 0 (.aload_n 0) 1 1 ∧ ((0 : Fin 4) : Nat) = 0 := ⟨⟨vm_row tbX8_spread 0 rfl, rfl⟩, rfl⟩
theorem dX8_spread_1 : vm_at cX8_spread 1 (.getfield 41) 3 4 := ⟨vm_row tbX8_spread 1 rfl, rfl⟩
theorem dX8_spread_4 : vm_at cX8_spread 4 (.invokevirtual 79) 3 7 := ⟨vm_row tbX8_spread 2 rfl, rfl⟩
theorem dX8_spread_7 : vm_at cX8_spread 7 (.aload_n 0) 1 8 ∧ ((0 : Fin 4) : Nat) = 0 := ⟨⟨vm_row tbX8_spread 3 rfl, rfl⟩, rfl⟩
theorem dX8_spread_8 : vm_at cX8_spread 8 (.getfield 9) 3 11 := ⟨vm_row tbX8_spread 4 rfl, rfl⟩
theorem dX8_spread_11 : vm_at cX8_spread 11 (.iconst (-1)) 1 12 ∧ Int32.ofInt (-1) = (-1 : Int32) := ⟨⟨vm_row tbX8_spread 5 rfl, rfl⟩, z_iconst_m1⟩
theorem dX8_spread_12 : vm_at cX8_spread 12 (.invokestatic 50) 3 15 := ⟨vm_row tbX8_spread 6 rfl, rfl⟩
theorem dX8_spread_15 : vm_at cX8_spread 15 (.aload_n 0) 1 16 ∧ ((0 : Fin 4) : Nat) = 0 := ⟨⟨vm_row tbX8_spread 7 rfl, rfl⟩, rfl⟩
theorem dX8_spread_16 : vm_at cX8_spread 16 (.iload_n 2) 1 17 ∧ ((2 : Fin 4) : Nat) = 2 := ⟨⟨vm_row tbX8_spread 8 rfl, rfl⟩, rfl⟩
theorem dX8_spread_17 : vm_at cX8_spread 17 (.iconst (-1)) 1 18 ∧ Int32.ofInt (-1) = (-1 : Int32) := ⟨⟨vm_row tbX8_spread 9 rfl, rfl⟩, z_iconst_m1⟩
theorem dX8_spread_18 : vm_at cX8_spread 18 (.iconst 0) 1 19 ∧ Int32.ofInt (0) = (0 : Int32) := ⟨⟨vm_row tbX8_spread 10 rfl, rfl⟩, z_iconst_0⟩
theorem dX8_spread_19 : vm_at cX8_spread 19 (.invokevirtual 82) 3 22 := ⟨vm_row tbX8_spread 11 rfl, rfl⟩
theorem dX8_spread_22 : vm_at cX8_spread 22 (.iconst 1) 1 23 ∧ Int32.ofInt (1) = (1 : Int32) := ⟨⟨vm_row tbX8_spread 12 rfl, rfl⟩, z_iconst_1⟩
theorem dX8_spread_23 : vm_at cX8_spread 23 (.istore_n 3) 1 24 ∧ ((3 : Fin 4) : Nat) = 3 := ⟨⟨vm_row tbX8_spread 13 rfl, rfl⟩, rfl⟩
theorem dX8_spread_24 : vm_at cX8_spread 24 (.iconst 1) 1 25 ∧ Int32.ofInt (1) = (1 : Int32) := ⟨⟨vm_row tbX8_spread 14 rfl, rfl⟩, z_iconst_1⟩
theorem dX8_spread_25 : vm_at cX8_spread 25 (.istore 4) 2 27 := ⟨vm_row tbX8_spread 15 rfl, rfl⟩
theorem dX8_spread_27 : vm_at cX8_spread 27 (.iconst 0) 1 28 ∧ Int32.ofInt (0) = (0 : Int32) := ⟨⟨vm_row tbX8_spread 16 rfl, rfl⟩, z_iconst_0⟩
theorem dX8_spread_28 : vm_at cX8_spread 28 (.istore 5) 2 30 := ⟨vm_row tbX8_spread 17 rfl, rfl⟩
theorem dX8_spread_30 : vm_at cX8_spread 30 (.iload 5) 2 32 := ⟨vm_row tbX8_spread 18 rfl, rfl⟩
theorem dX8_spread_32 : vm_at cX8_spread 32 (.ldc 86) 2 34 := ⟨vm_row tbX8_spread 19 rfl, rfl⟩
theorem dX8_spread_34 : vm_br cX8_spread 34 (.if_icmp .ge 102) 3 37 (102) 136 := ⟨vm_row tbX8_spread 20 rfl, rfl, rfl⟩
theorem dX8_spread_37 : vm_at cX8_spread 37 (.iload 5) 2 39 := ⟨vm_row tbX8_spread 21 rfl, rfl⟩
theorem dX8_spread_39 : vm_at cX8_spread 39 (.aload_n 0) 1 40 ∧ ((0 : Fin 4) : Nat) = 0 := ⟨⟨vm_row tbX8_spread 22 rfl, rfl⟩, rfl⟩
theorem dX8_spread_40 : vm_at cX8_spread 40 (.getfield 41) 3 43 := ⟨vm_row tbX8_spread 23 rfl, rfl⟩
theorem dX8_spread_43 : vm_at cX8_spread 43 (.getfield 87) 3 46 := ⟨vm_row tbX8_spread 24 rfl, rfl⟩
theorem dX8_spread_46 : vm_br cX8_spread 46 (.if_icmp .ge 90) 3 49 (90) 136 := ⟨vm_row tbX8_spread 25 rfl, rfl, rfl⟩
theorem dX8_spread_49 : vm_at cX8_spread 49 (.aload_n 0) 1 50 ∧ ((0 : Fin 4) : Nat) = 0 := ⟨⟨vm_row tbX8_spread 26 rfl, rfl⟩, rfl⟩
theorem dX8_spread_50 : vm_at cX8_spread 50 (.getfield 21) 3 53 := ⟨vm_row tbX8_spread 27 rfl, rfl⟩
theorem dX8_spread_53 : vm_br cX8_spread 53 (.ifCond .gt 6) 3 56 (6) 59 := ⟨vm_row tbX8_spread 28 rfl, rfl, rfl⟩
theorem dX8_spread_56 : vm_br cX8_spread 56 (.goto 80) 3 59 (80) 136 := ⟨vm_row tbX8_spread 29 rfl, rfl, rfl⟩
theorem dX8_spread_59 : vm_at cX8_spread 59 (.iload 5) 2 61 := ⟨vm_row tbX8_spread 30 rfl, rfl⟩
theorem dX8_spread_61 : vm_at cX8_spread 61 (.iload 4) 2 63 := ⟨vm_row tbX8_spread 31 rfl, rfl⟩
theorem dX8_spread_63 : vm_br cX8_spread 63 (.if_icmp .ne 15) 3 66 (15) 78 := ⟨vm_row tbX8_spread 32 rfl, rfl, rfl⟩
theorem dX8_spread_66 : vm_at cX8_spread 66 (.iinc 3 1) 3 69 ∧ Int32.ofInt (1) = (1 : Int32) := ⟨⟨vm_row tbX8_spread 33 rfl, rfl⟩, z_iconst_1⟩
theorem dX8_spread_69 : vm_at cX8_spread 69 (.aload_n 0) 1 70 ∧ ((0 : Fin 4) : Nat) = 0 := ⟨⟨vm_row tbX8_spread 34 rfl, rfl⟩, rfl⟩
theorem dX8_spread_70 : vm_at cX8_spread 70 (.getfield 41) 3 73 := ⟨vm_row tbX8_spread 35 rfl, rfl⟩
theorem dX8_spread_73 : vm_at cX8_spread 73 (.getfield 87) 3 76 := ⟨vm_row tbX8_spread 36 rfl, rfl⟩
theorem dX8_spread_76 : vm_at cX8_spread 76 (.istore 4) 2 78 := ⟨vm_row tbX8_spread 37 rfl, rfl⟩
theorem dX8_spread_78 : vm_at cX8_spread 78 (.aload_n 0) 1 79 ∧ ((0 : Fin 4) : Nat) = 0 := ⟨⟨vm_row tbX8_spread 38 rfl, rfl⟩, rfl⟩
theorem dX8_spread_79 : vm_at cX8_spread 79 (.getfield 41) 3 82 := ⟨vm_row tbX8_spread 39 rfl, rfl⟩
theorem dX8_spread_82 : vm_at cX8_spread 82 (.getfield 90) 3 85 := ⟨vm_row tbX8_spread 40 rfl, rfl⟩
theorem dX8_spread_85 : vm_at cX8_spread 85 (.iload 5) 2 87 := ⟨vm_row tbX8_spread 41 rfl, rfl⟩
theorem dX8_spread_87 : vm_at cX8_spread 87 (.invokestatic 68) 3 90 := ⟨vm_row tbX8_spread 42 rfl, rfl⟩
theorem dX8_spread_90 : vm_at cX8_spread 90 (.istore 6) 2 92 := ⟨vm_row tbX8_spread 43 rfl, rfl⟩
theorem dX8_spread_92 : vm_at cX8_spread 92 (.iconst 0) 1 93 ∧ Int32.ofInt (0) = (0 : Int32) := ⟨⟨vm_row tbX8_spread 44 rfl, rfl⟩, z_iconst_0⟩
theorem dX8_spread_93 : vm_at cX8_spread 93 (.istore 7) 2 95 := ⟨vm_row tbX8_spread 45 rfl, rfl⟩
theorem dX8_spread_95 : vm_at cX8_spread 95 (.iload 7) 2 97 := ⟨vm_row tbX8_spread 46 rfl, rfl⟩
theorem dX8_spread_97 : vm_at cX8_spread 97 (.aload_n 1) 1 98 ∧ ((1 : Fin 4) : Nat) = 1 := ⟨⟨vm_row tbX8_spread 47 rfl, rfl⟩, rfl⟩
theorem dX8_spread_98 : vm_at cX8_spread 98 (.getfield 93) 3 101 := ⟨vm_row tbX8_spread 48 rfl, rfl⟩
theorem dX8_spread_101 : vm_br cX8_spread 101 (.if_icmp .ge 29) 3 104 (29) 130 := ⟨vm_row tbX8_spread 49 rfl, rfl, rfl⟩
theorem dX8_spread_104 : vm_at cX8_spread 104 (.aload_n 0) 1 105 ∧ ((0 : Fin 4) : Nat) = 0 := ⟨⟨vm_row tbX8_spread 50 rfl, rfl⟩, rfl⟩
theorem dX8_spread_105 : vm_at cX8_spread 105 (.aload_n 1) 1 106 ∧ ((1 : Fin 4) : Nat) = 1 := ⟨⟨vm_row tbX8_spread 51 rfl, rfl⟩, rfl⟩
theorem dX8_spread_106 : vm_at cX8_spread 106 (.iload 6) 2 108 := ⟨vm_row tbX8_spread 52 rfl, rfl⟩
theorem dX8_spread_108 : vm_at cX8_spread 108 (.iload 7) 2 110 := ⟨vm_row tbX8_spread 53 rfl, rfl⟩
theorem dX8_spread_110 : vm_at cX8_spread 110 (.invokevirtual 96) 3 113 := ⟨vm_row tbX8_spread 54 rfl, rfl⟩
theorem dX8_spread_113 : vm_at cX8_spread 113 (.iload 5) 2 115 := ⟨vm_row tbX8_spread 55 rfl, rfl⟩
theorem dX8_spread_115 : vm_at cX8_spread 115 (.iconst 4) 1 116 ∧ Int32.ofInt (4) = (4 : Int32) := ⟨⟨vm_row tbX8_spread 56 rfl, rfl⟩, z_iconst_4⟩
theorem dX8_spread_116 : vm_at cX8_spread 116 (.ishl) 1 117 := ⟨vm_row tbX8_spread 57 rfl, rfl⟩
theorem dX8_spread_117 : vm_at cX8_spread 117 (.iload 7) 2 119 := ⟨vm_row tbX8_spread 58 rfl, rfl⟩
theorem dX8_spread_119 : vm_at cX8_spread 119 (.ior) 1 120 := ⟨vm_row tbX8_spread 59 rfl, rfl⟩
theorem dX8_spread_120 : vm_at cX8_spread 120 (.iload_n 3) 1 121 ∧ ((3 : Fin 4) : Nat) = 3 := ⟨⟨vm_row tbX8_spread 60 rfl, rfl⟩, rfl⟩
theorem dX8_spread_121 : vm_at cX8_spread 121 (.invokevirtual 82) 3 124 := ⟨vm_row tbX8_spread 61 rfl, rfl⟩
theorem dX8_spread_124 : vm_at cX8_spread 124 (.iinc 7 1) 3 127 ∧ Int32.ofInt (1) = (1 : Int32) := ⟨⟨vm_row tbX8_spread 62 rfl, rfl⟩, z_iconst_1⟩
theorem dX8_spread_127 : vm_br cX8_spread 127 (.goto (-32)) 3 130 (-32) 95 := ⟨vm_row tbX8_spread 63 rfl, rfl, rfl⟩
theorem dX8_spread_130 : vm_at cX8_spread 130 (.iinc 5 1) 3 133 ∧ Int32.ofInt (1) = (1 : Int32) := ⟨⟨vm_row tbX8_spread 64 rfl, rfl⟩, z_iconst_1⟩
theorem dX8_spread_133 : vm_br cX8_spread 133 (.goto (-103)) 3 136 (-103) 30 := ⟨vm_row tbX8_spread 65 rfl, rfl, rfl⟩
theorem dX8_spread_136 : vm_at cX8_spread 136 (.return_) 1 137 := ⟨vm_row tbX8_spread 66 rfl, rfl⟩
def tlX8_meet : List (Nat × Instr × Nat) := [(0, .aload_n 0, 1), (1, .getfield 41, 3), (4, .iload_n 1, 1), (5, .invokevirtual 100, 3), (8, .ifCond .ne 4, 3), (11, .return_, 1), (12, .aload_n 0, 1), (13, .getfield 41, 3), (16, .iload_n 1, 1), (17, .iload_n 2, 1), (18, .invokevirtual 104, 3), (21, .iload_n 1, 1), (22, .invokestatic 108, 3), (25, .istore 4, 2), (27, .iload 4, 2), (29, .bipush 100, 2), (31, .if_icmp .ge 54, 3), (34, .aload_n 0, 1), (35, .getfield 9, 3), (38, .iload 4, 2), (40, .iaload, 1), (41, .iconst (-1), 1), (42, .if_icmp .ne 43, 3), (45, .aload_n 0, 1), (46, .getfield 9, 3), (49, .iload 4, 2), (51, .iload_n 3, 1), (52, .iastore, 1), (53, .aload_n 0, 1), (54, .getfield 15, 3), (57, .iload 4, 2), (59, .aload_n 0, 1), (60, .getfield 41, 3), (63, .getfield 87, 3), (66, .iconst 1, 1), (67, .isub, 1), (68, .iastore, 1), (69, .aload_n 0, 1), (70, .dup, 1), (71, .getfield 21, 3), (74, .aload_n 0, 1), (75, .getfield 18, 3), (78, .iload 4, 2), (80, .iaload, 1), (81, .isub, 1), (82, .putfield 21, 3), (85, .return_, 1)]
theorem tbX8_meet : vm_chk cX8_meet tlX8_meet = true := by decide +kernel
theorem dX8_meet_0 : vm_at cX8_meet 0 (.aload_n 0) 1 1 ∧ ((0 : Fin 4) : Nat) = 0 := ⟨⟨vm_row tbX8_meet 0 rfl, rfl⟩, rfl⟩
theorem dX8_meet_1 : vm_at cX8_meet 1 (.getfield 41) 3 4 := ⟨vm_row tbX8_meet 1 rfl, rfl⟩
theorem dX8_meet_4 : vm_at cX8_meet 4 (.iload_n 1) 1 5 ∧ ((1 : Fin 4) : Nat) = 1 := ⟨⟨vm_row tbX8_meet 2 rfl, rfl⟩, rfl⟩
theorem dX8_meet_5 : vm_at cX8_meet 5 (.invokevirtual 100) 3 8 := ⟨vm_row tbX8_meet 3 rfl, rfl⟩
theorem dX8_meet_8 : vm_br cX8_meet 8 (.ifCond .ne 4) 3 11 (4) 12 := ⟨vm_row tbX8_meet 4 rfl, rfl, rfl⟩
theorem dX8_meet_11 : vm_at cX8_meet 11 (.return_) 1 12 := ⟨vm_row tbX8_meet 5 rfl, rfl⟩
theorem dX8_meet_12 : vm_at cX8_meet 12 (.aload_n 0) 1 13 ∧ ((0 : Fin 4) : Nat) = 0 := ⟨⟨vm_row tbX8_meet 6 rfl, rfl⟩, rfl⟩
theorem dX8_meet_13 : vm_at cX8_meet 13 (.getfield 41) 3 16 := ⟨vm_row tbX8_meet 7 rfl, rfl⟩
theorem dX8_meet_16 : vm_at cX8_meet 16 (.iload_n 1) 1 17 ∧ ((1 : Fin 4) : Nat) = 1 := ⟨⟨vm_row tbX8_meet 8 rfl, rfl⟩, rfl⟩
theorem dX8_meet_17 : vm_at cX8_meet 17 (.iload_n 2) 1 18 ∧ ((2 : Fin 4) : Nat) = 2 := ⟨⟨vm_row tbX8_meet 9 rfl, rfl⟩, rfl⟩
theorem dX8_meet_18 : vm_at cX8_meet 18 (.invokevirtual 104) 3 21 := ⟨vm_row tbX8_meet 10 rfl, rfl⟩
theorem dX8_meet_21 : vm_at cX8_meet 21 (.iload_n 1) 1 22 ∧ ((1 : Fin 4) : Nat) = 1 := ⟨⟨vm_row tbX8_meet 11 rfl, rfl⟩, rfl⟩
theorem dX8_meet_22 : vm_at cX8_meet 22 (.invokestatic 108) 3 25 := ⟨vm_row tbX8_meet 12 rfl, rfl⟩
theorem dX8_meet_25 : vm_at cX8_meet 25 (.istore 4) 2 27 := ⟨vm_row tbX8_meet 13 rfl, rfl⟩
theorem dX8_meet_27 : vm_at cX8_meet 27 (.iload 4) 2 29 := ⟨vm_row tbX8_meet 14 rfl, rfl⟩
theorem dX8_meet_29 : vm_at cX8_meet 29 (.bipush 100) 2 31 ∧ (Int8.ofInt (100)).toInt32 = (100 : Int32) := ⟨⟨vm_row tbX8_meet 15 rfl, rfl⟩, z_bipush_100⟩
theorem dX8_meet_31 : vm_br cX8_meet 31 (.if_icmp .ge 54) 3 34 (54) 85 := ⟨vm_row tbX8_meet 16 rfl, rfl, rfl⟩
theorem dX8_meet_34 : vm_at cX8_meet 34 (.aload_n 0) 1 35 ∧ ((0 : Fin 4) : Nat) = 0 := ⟨⟨vm_row tbX8_meet 17 rfl, rfl⟩, rfl⟩
theorem dX8_meet_35 : vm_at cX8_meet 35 (.getfield 9) 3 38 := ⟨vm_row tbX8_meet 18 rfl, rfl⟩
theorem dX8_meet_38 : vm_at cX8_meet 38 (.iload 4) 2 40 := ⟨vm_row tbX8_meet 19 rfl, rfl⟩
theorem dX8_meet_40 : vm_at cX8_meet 40 (.iaload) 1 41 := ⟨vm_row tbX8_meet 20 rfl, rfl⟩
theorem dX8_meet_41 : vm_at cX8_meet 41 (.iconst (-1)) 1 42 ∧ Int32.ofInt (-1) = (-1 : Int32) := ⟨⟨vm_row tbX8_meet 21 rfl, rfl⟩, z_iconst_m1⟩
theorem dX8_meet_42 : vm_br cX8_meet 42 (.if_icmp .ne 43) 3 45 (43) 85 := ⟨vm_row tbX8_meet 22 rfl, rfl, rfl⟩
theorem dX8_meet_45 : vm_at cX8_meet 45 (.aload_n 0) 1 46 ∧ ((0 : Fin 4) : Nat) = 0 := ⟨⟨vm_row tbX8_meet 23 rfl, rfl⟩, rfl⟩
theorem dX8_meet_46 : vm_at cX8_meet 46 (.getfield 9) 3 49 := ⟨vm_row tbX8_meet 24 rfl, rfl⟩
theorem dX8_meet_49 : vm_at cX8_meet 49 (.iload 4) 2 51 := ⟨vm_row tbX8_meet 25 rfl, rfl⟩
theorem dX8_meet_51 : vm_at cX8_meet 51 (.iload_n 3) 1 52 ∧ ((3 : Fin 4) : Nat) = 3 := ⟨⟨vm_row tbX8_meet 26 rfl, rfl⟩, rfl⟩
theorem dX8_meet_52 : vm_at cX8_meet 52 (.iastore) 1 53 := ⟨vm_row tbX8_meet 27 rfl, rfl⟩
theorem dX8_meet_53 : vm_at cX8_meet 53 (.aload_n 0) 1 54 ∧ ((0 : Fin 4) : Nat) = 0 := ⟨⟨vm_row tbX8_meet 28 rfl, rfl⟩, rfl⟩
theorem dX8_meet_54 : vm_at cX8_meet 54 (.getfield 15) 3 57 := ⟨vm_row tbX8_meet 29 rfl, rfl⟩
theorem dX8_meet_57 : vm_at cX8_meet 57 (.iload 4) 2 59 := ⟨vm_row tbX8_meet 30 rfl, rfl⟩
theorem dX8_meet_59 : vm_at cX8_meet 59 (.aload_n 0) 1 60 ∧ ((0 : Fin 4) : Nat) = 0 := ⟨⟨vm_row tbX8_meet 31 rfl, rfl⟩, rfl⟩
theorem dX8_meet_60 : vm_at cX8_meet 60 (.getfield 41) 3 63 := ⟨vm_row tbX8_meet 32 rfl, rfl⟩
theorem dX8_meet_63 : vm_at cX8_meet 63 (.getfield 87) 3 66 := ⟨vm_row tbX8_meet 33 rfl, rfl⟩
theorem dX8_meet_66 : vm_at cX8_meet 66 (.iconst 1) 1 67 ∧ Int32.ofInt (1) = (1 : Int32) := ⟨⟨vm_row tbX8_meet 34 rfl, rfl⟩, z_iconst_1⟩
theorem dX8_meet_67 : vm_at cX8_meet 67 (.isub) 1 68 := ⟨vm_row tbX8_meet 35 rfl, rfl⟩
theorem dX8_meet_68 : vm_at cX8_meet 68 (.iastore) 1 69 := ⟨vm_row tbX8_meet 36 rfl, rfl⟩
theorem dX8_meet_69 : vm_at cX8_meet 69 (.aload_n 0) 1 70 ∧ ((0 : Fin 4) : Nat) = 0 := ⟨⟨vm_row tbX8_meet 37 rfl, rfl⟩, rfl⟩
theorem dX8_meet_70 : vm_at cX8_meet 70 (.dup) 1 71 := ⟨vm_row tbX8_meet 38 rfl, rfl⟩
theorem dX8_meet_71 : vm_at cX8_meet 71 (.getfield 21) 3 74 := ⟨vm_row tbX8_meet 39 rfl, rfl⟩
theorem dX8_meet_74 : vm_at cX8_meet 74 (.aload_n 0) 1 75 ∧ ((0 : Fin 4) : Nat) = 0 := ⟨⟨vm_row tbX8_meet 40 rfl, rfl⟩, rfl⟩
theorem dX8_meet_75 : vm_at cX8_meet 75 (.getfield 18) 3 78 := ⟨vm_row tbX8_meet 41 rfl, rfl⟩
theorem dX8_meet_78 : vm_at cX8_meet 78 (.iload 4) 2 80 := ⟨vm_row tbX8_meet 42 rfl, rfl⟩
theorem dX8_meet_80 : vm_at cX8_meet 80 (.iaload) 1 81 := ⟨vm_row tbX8_meet 43 rfl, rfl⟩
theorem dX8_meet_81 : vm_at cX8_meet 81 (.isub) 1 82 := ⟨vm_row tbX8_meet 44 rfl, rfl⟩
theorem dX8_meet_82 : vm_at cX8_meet 82 (.putfield 21) 3 85 := ⟨vm_row tbX8_meet 45 rfl, rfl⟩
theorem dX8_meet_85 : vm_at cX8_meet 85 (.return_) 1 86 := ⟨vm_row tbX8_meet 46 rfl, rfl⟩
def tlX8_learnMore : List (Nat × Instr × Nat) := [(0, .aload_n 0, 1), (1, .getfield 29, 3), (4, .ifCond .eq 4, 3), (7, .return_, 1), (8, .aload_n 0, 1), (9, .iconst 0, 1), (10, .putfield 25, 3), (13, .aload_n 0, 1), (14, .iconst 1, 1), (15, .putfield 29, 3), (18, .aload_n 0, 1), (19, .iconst (-1), 1), (20, .putfield 38, 3), (23, .aload_n 0, 1), (24, .aload_n 1, 1), (25, .aload_n 2, 1), (26, .invokevirtual 111, 3), (29, .istore_n 3, 1), (30, .iconst 0, 1), (31, .istore 4, 2), (33, .iload 4, 2), (35, .aload_n 1, 1), (36, .getfield 115, 3), (39, .iconst 4, 1), (40, .iadd, 1), (41, .if_icmp .ge 117, 3), (44, .iload 4, 2), (46, .aload_n 1, 1), (47, .getfield 115, 3), (50, .if_icmp .ge 7, 3), (53, .iconst 0, 1), (54, .goto 12, 3), (57, .iconst 1, 1), (58, .iload 4, 2), (60, .iadd, 1), (61, .aload_n 1, 1), (62, .getfield 115, 3), (65, .isub, 1), (66, .istore 5, 2), (68, .iload 5, 2), (70, .ifCond .ne 8, 3), (73, .iload 4, 2), (75, .goto 4, 3), (78, .iconst (-1), 1), (79, .istore 6, 2), (81, .iload_n 3, 1), (82, .istore 7, 2), (84, .aload_n 1, 1), (85, .iload 5, 2), (87, .iload 6, 2), (89, .invokevirtual 118, 3), (92, .ifCond .ne 25, 3), (95, .aload_n 1, 1), (96, .iload 5, 2), (98, .iconst 1, 1), (99, .iload 6, 2), (101, .iconst (-1), 1), (102, .invokevirtual 122, 3), (105, .aload_n 0, 1), (106, .aload_n 1, 1), (107, .aload_n 2, 1), (108, .invokevirtual 111, 3), (111, .istore 7, 2), (113, .aload_n 1, 1), (114, .invokevirtual 126, 3), (117, .aload_n 0, 1), (118, .getfield 38, 3), (121, .iconst (-1), 1), (122, .if_icmp .eq 12, 3), (125, .iload 7, 2), (127, .aload_n 0, 1), (128, .getfield 38, 3), (131, .if_icmp .ge 21, 3), (134, .aload_n 0, 1), (135, .iload 5, 2), (137, .putfield 32, 3), (140, .aload_n 0, 1), (141, .iload 6, 2), (143, .putfield 35, 3), (146, .aload_n 0, 1), (147, .iload 7, 2), (149, .putfield 38, 3), (152, .iinc 4 1, 3), (155, .goto (-122), 3), (158, .return_, 1)]
theorem tbX8_learnMore : vm_chk cX8_learnMore tlX8_learnMore = true := by decide +kernel
theorem dX8_learnMore_0 : vm_at cX8_learnMore 0 (.aload_n 0) 1 1 ∧ ((0 : Fin 4) : Nat) = 0 := ⟨⟨vm_row tbX8_learnMore 0 rfl, rfl⟩, rfl⟩
theorem dX8_learnMore_1 : vm_at cX8_learnMore 1 (.getfield 29) 3 4 := ⟨vm_row tbX8_learnMore 1 rfl, rfl⟩
theorem dX8_learnMore_4 : vm_br cX8_learnMore 4 (.ifCond .eq 4) 3 7 (4) 8 := ⟨vm_row tbX8_learnMore 2 rfl, rfl, rfl⟩
theorem dX8_learnMore_7 : vm_at cX8_learnMore 7 (.return_) 1 8 := ⟨vm_row tbX8_learnMore 3 rfl, rfl⟩
theorem dX8_learnMore_8 : vm_at cX8_learnMore 8 (.aload_n 0) 1 9 ∧ ((0 : Fin 4) : Nat) = 0 := ⟨⟨vm_row tbX8_learnMore 4 rfl, rfl⟩, rfl⟩
theorem dX8_learnMore_9 : vm_at cX8_learnMore 9 (.iconst 0) 1 10 ∧ Int32.ofInt (0) = (0 : Int32) := ⟨⟨vm_row tbX8_learnMore 5 rfl, rfl⟩, z_iconst_0⟩
theorem dX8_learnMore_10 : vm_at cX8_learnMore 10 (.putfield 25) 3 13 := ⟨vm_row tbX8_learnMore 6 rfl, rfl⟩
theorem dX8_learnMore_13 : vm_at cX8_learnMore 13 (.aload_n 0) 1 14 ∧ ((0 : Fin 4) : Nat) = 0 := ⟨⟨vm_row tbX8_learnMore 7 rfl, rfl⟩, rfl⟩
theorem dX8_learnMore_14 : vm_at cX8_learnMore 14 (.iconst 1) 1 15 ∧ Int32.ofInt (1) = (1 : Int32) := ⟨⟨vm_row tbX8_learnMore 8 rfl, rfl⟩, z_iconst_1⟩
theorem dX8_learnMore_15 : vm_at cX8_learnMore 15 (.putfield 29) 3 18 := ⟨vm_row tbX8_learnMore 9 rfl, rfl⟩
theorem dX8_learnMore_18 : vm_at cX8_learnMore 18 (.aload_n 0) 1 19 ∧ ((0 : Fin 4) : Nat) = 0 := ⟨⟨vm_row tbX8_learnMore 10 rfl, rfl⟩, rfl⟩
theorem dX8_learnMore_19 : vm_at cX8_learnMore 19 (.iconst (-1)) 1 20 ∧ Int32.ofInt (-1) = (-1 : Int32) := ⟨⟨vm_row tbX8_learnMore 11 rfl, rfl⟩, z_iconst_m1⟩
theorem dX8_learnMore_20 : vm_at cX8_learnMore 20 (.putfield 38) 3 23 := ⟨vm_row tbX8_learnMore 12 rfl, rfl⟩
theorem dX8_learnMore_23 : vm_at cX8_learnMore 23 (.aload_n 0) 1 24 ∧ ((0 : Fin 4) : Nat) = 0 := ⟨⟨vm_row tbX8_learnMore 13 rfl, rfl⟩, rfl⟩
theorem dX8_learnMore_24 : vm_at cX8_learnMore 24 (.aload_n 1) 1 25 ∧ ((1 : Fin 4) : Nat) = 1 := ⟨⟨vm_row tbX8_learnMore 14 rfl, rfl⟩, rfl⟩
theorem dX8_learnMore_25 : vm_at cX8_learnMore 25 (.aload_n 2) 1 26 ∧ ((2 : Fin 4) : Nat) = 2 := ⟨⟨vm_row tbX8_learnMore 15 rfl, rfl⟩, rfl⟩
theorem dX8_learnMore_26 : vm_at cX8_learnMore 26 (.invokevirtual 111) 3 29 := ⟨vm_row tbX8_learnMore 16 rfl, rfl⟩
theorem dX8_learnMore_29 : vm_at cX8_learnMore 29 (.istore_n 3) 1 30 ∧ ((3 : Fin 4) : Nat) = 3 := ⟨⟨vm_row tbX8_learnMore 17 rfl, rfl⟩, rfl⟩
theorem dX8_learnMore_30 : vm_at cX8_learnMore 30 (.iconst 0) 1 31 ∧ Int32.ofInt (0) = (0 : Int32) := ⟨⟨vm_row tbX8_learnMore 18 rfl, rfl⟩, z_iconst_0⟩
theorem dX8_learnMore_31 : vm_at cX8_learnMore 31 (.istore 4) 2 33 := ⟨vm_row tbX8_learnMore 19 rfl, rfl⟩
theorem dX8_learnMore_33 : vm_at cX8_learnMore 33 (.iload 4) 2 35 := ⟨vm_row tbX8_learnMore 20 rfl, rfl⟩
theorem dX8_learnMore_35 : vm_at cX8_learnMore 35 (.aload_n 1) 1 36 ∧ ((1 : Fin 4) : Nat) = 1 := ⟨⟨vm_row tbX8_learnMore 21 rfl, rfl⟩, rfl⟩
theorem dX8_learnMore_36 : vm_at cX8_learnMore 36 (.getfield 115) 3 39 := ⟨vm_row tbX8_learnMore 22 rfl, rfl⟩
theorem dX8_learnMore_39 : vm_at cX8_learnMore 39 (.iconst 4) 1 40 ∧ Int32.ofInt (4) = (4 : Int32) := ⟨⟨vm_row tbX8_learnMore 23 rfl, rfl⟩, z_iconst_4⟩
theorem dX8_learnMore_40 : vm_at cX8_learnMore 40 (.iadd) 1 41 := ⟨vm_row tbX8_learnMore 24 rfl, rfl⟩
theorem dX8_learnMore_41 : vm_br cX8_learnMore 41 (.if_icmp .ge 117) 3 44 (117) 158 := ⟨vm_row tbX8_learnMore 25 rfl, rfl, rfl⟩
theorem dX8_learnMore_44 : vm_at cX8_learnMore 44 (.iload 4) 2 46 := ⟨vm_row tbX8_learnMore 26 rfl, rfl⟩
theorem dX8_learnMore_46 : vm_at cX8_learnMore 46 (.aload_n 1) 1 47 ∧ ((1 : Fin 4) : Nat) = 1 := ⟨⟨vm_row tbX8_learnMore 27 rfl, rfl⟩, rfl⟩
theorem dX8_learnMore_47 : vm_at cX8_learnMore 47 (.getfield 115) 3 50 := ⟨vm_row tbX8_learnMore 28 rfl, rfl⟩
theorem dX8_learnMore_50 : vm_br cX8_learnMore 50 (.if_icmp .ge 7) 3 53 (7) 57 := ⟨vm_row tbX8_learnMore 29 rfl, rfl, rfl⟩
theorem dX8_learnMore_53 : vm_at cX8_learnMore 53 (.iconst 0) 1 54 ∧ Int32.ofInt (0) = (0 : Int32) := ⟨⟨vm_row tbX8_learnMore 30 rfl, rfl⟩, z_iconst_0⟩
theorem dX8_learnMore_54 : vm_br cX8_learnMore 54 (.goto 12) 3 57 (12) 66 := ⟨vm_row tbX8_learnMore 31 rfl, rfl, rfl⟩
theorem dX8_learnMore_57 : vm_at cX8_learnMore 57 (.iconst 1) 1 58 ∧ Int32.ofInt (1) = (1 : Int32) := ⟨⟨vm_row tbX8_learnMore 32 rfl, rfl⟩, z_iconst_1⟩
theorem dX8_learnMore_58 : vm_at cX8_learnMore 58 (.iload 4) 2 60 := ⟨vm_row tbX8_learnMore 33 rfl, rfl⟩
theorem dX8_learnMore_60 : vm_at cX8_learnMore 60 (.iadd) 1 61 := ⟨vm_row tbX8_learnMore 34 rfl, rfl⟩
theorem dX8_learnMore_61 : vm_at cX8_learnMore 61 (.aload_n 1) 1 62 ∧ ((1 : Fin 4) : Nat) = 1 := ⟨⟨vm_row tbX8_learnMore 35 rfl, rfl⟩, rfl⟩
theorem dX8_learnMore_62 : vm_at cX8_learnMore 62 (.getfield 115) 3 65 := ⟨vm_row tbX8_learnMore 36 rfl, rfl⟩
theorem dX8_learnMore_65 : vm_at cX8_learnMore 65 (.isub) 1 66 := ⟨vm_row tbX8_learnMore 37 rfl, rfl⟩
theorem dX8_learnMore_66 : vm_at cX8_learnMore 66 (.istore 5) 2 68 := ⟨vm_row tbX8_learnMore 38 rfl, rfl⟩
theorem dX8_learnMore_68 : vm_at cX8_learnMore 68 (.iload 5) 2 70 := ⟨vm_row tbX8_learnMore 39 rfl, rfl⟩
theorem dX8_learnMore_70 : vm_br cX8_learnMore 70 (.ifCond .ne 8) 3 73 (8) 78 := ⟨vm_row tbX8_learnMore 40 rfl, rfl, rfl⟩
theorem dX8_learnMore_73 : vm_at cX8_learnMore 73 (.iload 4) 2 75 := ⟨vm_row tbX8_learnMore 41 rfl, rfl⟩
theorem dX8_learnMore_75 : vm_br cX8_learnMore 75 (.goto 4) 3 78 (4) 79 := ⟨vm_row tbX8_learnMore 42 rfl, rfl, rfl⟩
theorem dX8_learnMore_78 : vm_at cX8_learnMore 78 (.iconst (-1)) 1 79 ∧ Int32.ofInt (-1) = (-1 : Int32) := ⟨⟨vm_row tbX8_learnMore 43 rfl, rfl⟩, z_iconst_m1⟩
theorem dX8_learnMore_79 : vm_at cX8_learnMore 79 (.istore 6) 2 81 := ⟨vm_row tbX8_learnMore 44 rfl, rfl⟩
theorem dX8_learnMore_81 : vm_at cX8_learnMore 81 (.iload_n 3) 1 82 ∧ ((3 : Fin 4) : Nat) = 3 := ⟨⟨vm_row tbX8_learnMore 45 rfl, rfl⟩, rfl⟩
theorem dX8_learnMore_82 : vm_at cX8_learnMore 82 (.istore 7) 2 84 := ⟨vm_row tbX8_learnMore 46 rfl, rfl⟩
theorem dX8_learnMore_84 : vm_at cX8_learnMore 84 (.aload_n 1) 1 85 ∧ ((1 : Fin 4) : Nat) = 1 := ⟨⟨vm_row tbX8_learnMore 47 rfl, rfl⟩, rfl⟩
theorem dX8_learnMore_85 : vm_at cX8_learnMore 85 (.iload 5) 2 87 := ⟨vm_row tbX8_learnMore 48 rfl, rfl⟩
theorem dX8_learnMore_87 : vm_at cX8_learnMore 87 (.iload 6) 2 89 := ⟨vm_row tbX8_learnMore 49 rfl, rfl⟩
theorem dX8_learnMore_89 : vm_at cX8_learnMore 89 (.invokevirtual 118) 3 92 := ⟨vm_row tbX8_learnMore 50 rfl, rfl⟩
theorem dX8_learnMore_92 : vm_br cX8_learnMore 92 (.ifCond .ne 25) 3 95 (25) 117 := ⟨vm_row tbX8_learnMore 51 rfl, rfl, rfl⟩
theorem dX8_learnMore_95 : vm_at cX8_learnMore 95 (.aload_n 1) 1 96 ∧ ((1 : Fin 4) : Nat) = 1 := ⟨⟨vm_row tbX8_learnMore 52 rfl, rfl⟩, rfl⟩
theorem dX8_learnMore_96 : vm_at cX8_learnMore 96 (.iload 5) 2 98 := ⟨vm_row tbX8_learnMore 53 rfl, rfl⟩
theorem dX8_learnMore_98 : vm_at cX8_learnMore 98 (.iconst 1) 1 99 ∧ Int32.ofInt (1) = (1 : Int32) := ⟨⟨vm_row tbX8_learnMore 54 rfl, rfl⟩, z_iconst_1⟩
theorem dX8_learnMore_99 : vm_at cX8_learnMore 99 (.iload 6) 2 101 := ⟨vm_row tbX8_learnMore 55 rfl, rfl⟩
theorem dX8_learnMore_101 : vm_at cX8_learnMore 101 (.iconst (-1)) 1 102 ∧ Int32.ofInt (-1) = (-1 : Int32) := ⟨⟨vm_row tbX8_learnMore 56 rfl, rfl⟩, z_iconst_m1⟩
theorem dX8_learnMore_102 : vm_at cX8_learnMore 102 (.invokevirtual 122) 3 105 := ⟨vm_row tbX8_learnMore 57 rfl, rfl⟩
theorem dX8_learnMore_105 : vm_at cX8_learnMore 105 (.aload_n 0) 1 106 ∧ ((0 : Fin 4) : Nat) = 0 := ⟨⟨vm_row tbX8_learnMore 58 rfl, rfl⟩, rfl⟩
theorem dX8_learnMore_106 : vm_at cX8_learnMore 106 (.aload_n 1) 1 107 ∧ ((1 : Fin 4) : Nat) = 1 := ⟨⟨vm_row tbX8_learnMore 59 rfl, rfl⟩, rfl⟩
theorem dX8_learnMore_107 : vm_at cX8_learnMore 107 (.aload_n 2) 1 108 ∧ ((2 : Fin 4) : Nat) = 2 := ⟨⟨vm_row tbX8_learnMore 60 rfl, rfl⟩, rfl⟩
theorem dX8_learnMore_108 : vm_at cX8_learnMore 108 (.invokevirtual 111) 3 111 := ⟨vm_row tbX8_learnMore 61 rfl, rfl⟩
theorem dX8_learnMore_111 : vm_at cX8_learnMore 111 (.istore 7) 2 113 := ⟨vm_row tbX8_learnMore 62 rfl, rfl⟩
theorem dX8_learnMore_113 : vm_at cX8_learnMore 113 (.aload_n 1) 1 114 ∧ ((1 : Fin 4) : Nat) = 1 := ⟨⟨vm_row tbX8_learnMore 63 rfl, rfl⟩, rfl⟩
theorem dX8_learnMore_114 : vm_at cX8_learnMore 114 (.invokevirtual 126) 3 117 := ⟨vm_row tbX8_learnMore 64 rfl, rfl⟩
theorem dX8_learnMore_117 : vm_at cX8_learnMore 117 (.aload_n 0) 1 118 ∧ ((0 : Fin 4) : Nat) = 0 := ⟨⟨vm_row tbX8_learnMore 65 rfl, rfl⟩, rfl⟩
theorem dX8_learnMore_118 : vm_at cX8_learnMore 118 (.getfield 38) 3 121 := ⟨vm_row tbX8_learnMore 66 rfl, rfl⟩
theorem dX8_learnMore_121 : vm_at cX8_learnMore 121 (.iconst (-1)) 1 122 ∧ Int32.ofInt (-1) = (-1 : Int32) := ⟨⟨vm_row tbX8_learnMore 67 rfl, rfl⟩, z_iconst_m1⟩
theorem dX8_learnMore_122 : vm_br cX8_learnMore 122 (.if_icmp .eq 12) 3 125 (12) 134 := ⟨vm_row tbX8_learnMore 68 rfl, rfl, rfl⟩
theorem dX8_learnMore_125 : vm_at cX8_learnMore 125 (.iload 7) 2 127 := ⟨vm_row tbX8_learnMore 69 rfl, rfl⟩
theorem dX8_learnMore_127 : vm_at cX8_learnMore 127 (.aload_n 0) 1 128 ∧ ((0 : Fin 4) : Nat) = 0 := ⟨⟨vm_row tbX8_learnMore 70 rfl, rfl⟩, rfl⟩
theorem dX8_learnMore_128 : vm_at cX8_learnMore 128 (.getfield 38) 3 131 := ⟨vm_row tbX8_learnMore 71 rfl, rfl⟩
theorem dX8_learnMore_131 : vm_br cX8_learnMore 131 (.if_icmp .ge 21) 3 134 (21) 152 := ⟨vm_row tbX8_learnMore 72 rfl, rfl, rfl⟩
theorem dX8_learnMore_134 : vm_at cX8_learnMore 134 (.aload_n 0) 1 135 ∧ ((0 : Fin 4) : Nat) = 0 := ⟨⟨vm_row tbX8_learnMore 73 rfl, rfl⟩, rfl⟩
theorem dX8_learnMore_135 : vm_at cX8_learnMore 135 (.iload 5) 2 137 := ⟨vm_row tbX8_learnMore 74 rfl, rfl⟩
theorem dX8_learnMore_137 : vm_at cX8_learnMore 137 (.putfield 32) 3 140 := ⟨vm_row tbX8_learnMore 75 rfl, rfl⟩
theorem dX8_learnMore_140 : vm_at cX8_learnMore 140 (.aload_n 0) 1 141 ∧ ((0 : Fin 4) : Nat) = 0 := ⟨⟨vm_row tbX8_learnMore 76 rfl, rfl⟩, rfl⟩
theorem dX8_learnMore_141 : vm_at cX8_learnMore 141 (.iload 6) 2 143 := ⟨vm_row tbX8_learnMore 77 rfl, rfl⟩
theorem dX8_learnMore_143 : vm_at cX8_learnMore 143 (.putfield 35) 3 146 := ⟨vm_row tbX8_learnMore 78 rfl, rfl⟩
theorem dX8_learnMore_146 : vm_at cX8_learnMore 146 (.aload_n 0) 1 147 ∧ ((0 : Fin 4) : Nat) = 0 := ⟨⟨vm_row tbX8_learnMore 79 rfl, rfl⟩, rfl⟩
theorem dX8_learnMore_147 : vm_at cX8_learnMore 147 (.iload 7) 2 149 := ⟨vm_row tbX8_learnMore 80 rfl, rfl⟩
theorem dX8_learnMore_149 : vm_at cX8_learnMore 149 (.putfield 38) 3 152 := ⟨vm_row tbX8_learnMore 81 rfl, rfl⟩
theorem dX8_learnMore_152 : vm_at cX8_learnMore 152 (.iinc 4 1) 3 155 ∧ Int32.ofInt (1) = (1 : Int32) := ⟨⟨vm_row tbX8_learnMore 82 rfl, rfl⟩, z_iconst_1⟩
theorem dX8_learnMore_155 : vm_br cX8_learnMore 155 (.goto (-122)) 3 158 (-122) 33 := ⟨vm_row tbX8_learnMore 83 rfl, rfl, rfl⟩
theorem dX8_learnMore_158 : vm_at cX8_learnMore 158 (.return_) 1 159 := ⟨vm_row tbX8_learnMore 84 rfl, rfl⟩
def tlX8_together : List (Nat × Instr × Nat) := [(0, .aload_n 0, 1), (1, .getfield 18, 3), (4, .iconst 0, 1), (5, .invokestatic 50, 3), (8, .aload_n 0, 1), (9, .iconst 0, 1), (10, .putfield 21, 3), (13, .iconst 0, 1), (14, .istore_n 3, 1), (15, .iload_n 3, 1), (16, .aload_n 2, 1), (17, .getfield 129, 3), (20, .if_icmp .ge 51, 3), (23, .aload_n 2, 1), (24, .getfield 134, 3), (27, .iload_n 3, 1), (28, .invokestatic 68, 3), (31, .istore 4, 2), (33, .aload_n 0, 1), (34, .getfield 18, 3), (37, .iload 4, 2), (39, .invokestatic 68, 3), (42, .ifCond .ne 23, 3), (45, .aload_n 0, 1), (46, .getfield 18, 3), (49, .iload 4, 2), (51, .iconst 1, 1), (52, .invokestatic 137, 3), (55, .aload_n 0, 1), (56, .dup, 1), (57, .getfield 21, 3), (60, .iconst 1, 1), (61, .iadd, 1), (62, .putfield 21, 3), (65, .iinc 3 1, 3), (68, .goto (-53), 3), (71, .aload_n 0, 1), (72, .aload_n 1, 1), (73, .aload_n 2, 1), (74, .getfield 141, 3), (77, .invokevirtual 61, 3), (80, .iconst 0, 1), (81, .istore_n 3, 1), (82, .iconst 0, 1), (83, .istore 4, 2), (85, .iload 4, 2), (87, .aload_n 2, 1), (88, .getfield 129, 3), (91, .if_icmp .ge 40, 3), (94, .aload_n 0, 1), (95, .aload_n 2, 1), (96, .getfield 134, 3), (99, .iload 4, 2), (101, .invokestatic 68, 3), (104, .invokevirtual 72, 3), (107, .istore 5, 2), (109, .iload_n 3, 1), (110, .iload 5, 2), (112, .iconst (-1), 1), (113, .if_icmp .ne 8, 3), (116, .bipush 99, 2), (118, .goto 5, 3), (121, .iload 5, 2), (123, .iadd, 1), (124, .istore_n 3, 1), (125, .iinc 4 1, 3), (128, .goto (-43), 3), (131, .iload_n 3, 1), (132, .ireturn, 1)]
theorem tbX8_together : vm_chk cX8_together tlX8_together = true := by decide +kernel
theorem dX8_together_0 : vm_at cX8_together 0 (.aload_n 0) 1 1 ∧ ((0 : Fin 4) : Nat) = 0 := ⟨⟨vm_row tbX8_together 0 rfl, rfl⟩, rfl⟩
theorem dX8_together_1 : vm_at cX8_together 1 (.getfield 18) 3 4 := ⟨vm_row tbX8_together 1 rfl, rfl⟩
theorem dX8_together_4 : vm_at cX8_together 4 (.iconst 0) 1 5 ∧ Int32.ofInt (0) = (0 : Int32) := ⟨⟨vm_row tbX8_together 2 rfl, rfl⟩, z_iconst_0⟩
theorem dX8_together_5 : vm_at cX8_together 5 (.invokestatic 50) 3 8 := ⟨vm_row tbX8_together 3 rfl, rfl⟩
theorem dX8_together_8 : vm_at cX8_together 8 (.aload_n 0) 1 9 ∧ ((0 : Fin 4) : Nat) = 0 := ⟨⟨vm_row tbX8_together 4 rfl, rfl⟩, rfl⟩
theorem dX8_together_9 : vm_at cX8_together 9 (.iconst 0) 1 10 ∧ Int32.ofInt (0) = (0 : Int32) := ⟨⟨vm_row tbX8_together 5 rfl, rfl⟩, z_iconst_0⟩
theorem dX8_together_10 : vm_at cX8_together 10 (.putfield 21) 3 13 := ⟨vm_row tbX8_together 6 rfl, rfl⟩
theorem dX8_together_13 : vm_at cX8_together 13 (.iconst 0) 1 14 ∧ Int32.ofInt (0) = (0 : Int32) := ⟨⟨vm_row tbX8_together 7 rfl, rfl⟩, z_iconst_0⟩
theorem dX8_together_14 : vm_at cX8_together 14 (.istore_n 3) 1 15 ∧ ((3 : Fin 4) : Nat) = 3 := ⟨⟨vm_row tbX8_together 8 rfl, rfl⟩, rfl⟩
theorem dX8_together_15 : vm_at cX8_together 15 (.iload_n 3) 1 16 ∧ ((3 : Fin 4) : Nat) = 3 := ⟨⟨vm_row tbX8_together 9 rfl, rfl⟩, rfl⟩
theorem dX8_together_16 : vm_at cX8_together 16 (.aload_n 2) 1 17 ∧ ((2 : Fin 4) : Nat) = 2 := ⟨⟨vm_row tbX8_together 10 rfl, rfl⟩, rfl⟩
theorem dX8_together_17 : vm_at cX8_together 17 (.getfield 129) 3 20 := ⟨vm_row tbX8_together 11 rfl, rfl⟩
theorem dX8_together_20 : vm_br cX8_together 20 (.if_icmp .ge 51) 3 23 (51) 71 := ⟨vm_row tbX8_together 12 rfl, rfl, rfl⟩
theorem dX8_together_23 : vm_at cX8_together 23 (.aload_n 2) 1 24 ∧ ((2 : Fin 4) : Nat) = 2 := ⟨⟨vm_row tbX8_together 13 rfl, rfl⟩, rfl⟩
theorem dX8_together_24 : vm_at cX8_together 24 (.getfield 134) 3 27 := ⟨vm_row tbX8_together 14 rfl, rfl⟩
theorem dX8_together_27 : vm_at cX8_together 27 (.iload_n 3) 1 28 ∧ ((3 : Fin 4) : Nat) = 3 := ⟨⟨vm_row tbX8_together 15 rfl, rfl⟩, rfl⟩
theorem dX8_together_28 : vm_at cX8_together 28 (.invokestatic 68) 3 31 := ⟨vm_row tbX8_together 16 rfl, rfl⟩
theorem dX8_together_31 : vm_at cX8_together 31 (.istore 4) 2 33 := ⟨vm_row tbX8_together 17 rfl, rfl⟩
theorem dX8_together_33 : vm_at cX8_together 33 (.aload_n 0) 1 34 ∧ ((0 : Fin 4) : Nat) = 0 := ⟨⟨vm_row tbX8_together 18 rfl, rfl⟩, rfl⟩
theorem dX8_together_34 : vm_at cX8_together 34 (.getfield 18) 3 37 := ⟨vm_row tbX8_together 19 rfl, rfl⟩
theorem dX8_together_37 : vm_at cX8_together 37 (.iload 4) 2 39 := ⟨vm_row tbX8_together 20 rfl, rfl⟩
theorem dX8_together_39 : vm_at cX8_together 39 (.invokestatic 68) 3 42 := ⟨vm_row tbX8_together 21 rfl, rfl⟩
theorem dX8_together_42 : vm_br cX8_together 42 (.ifCond .ne 23) 3 45 (23) 65 := ⟨vm_row tbX8_together 22 rfl, rfl, rfl⟩
theorem dX8_together_45 : vm_at cX8_together 45 (.aload_n 0) 1 46 ∧ ((0 : Fin 4) : Nat) = 0 := ⟨⟨vm_row tbX8_together 23 rfl, rfl⟩, rfl⟩
theorem dX8_together_46 : vm_at cX8_together 46 (.getfield 18) 3 49 := ⟨vm_row tbX8_together 24 rfl, rfl⟩
theorem dX8_together_49 : vm_at cX8_together 49 (.iload 4) 2 51 := ⟨vm_row tbX8_together 25 rfl, rfl⟩
theorem dX8_together_51 : vm_at cX8_together 51 (.iconst 1) 1 52 ∧ Int32.ofInt (1) = (1 : Int32) := ⟨⟨vm_row tbX8_together 26 rfl, rfl⟩, z_iconst_1⟩
theorem dX8_together_52 : vm_at cX8_together 52 (.invokestatic 137) 3 55 := ⟨vm_row tbX8_together 27 rfl, rfl⟩
theorem dX8_together_55 : vm_at cX8_together 55 (.aload_n 0) 1 56 ∧ ((0 : Fin 4) : Nat) = 0 := ⟨⟨vm_row tbX8_together 28 rfl, rfl⟩, rfl⟩
theorem dX8_together_56 : vm_at cX8_together 56 (.dup) 1 57 := ⟨vm_row tbX8_together 29 rfl, rfl⟩
theorem dX8_together_57 : vm_at cX8_together 57 (.getfield 21) 3 60 := ⟨vm_row tbX8_together 30 rfl, rfl⟩
theorem dX8_together_60 : vm_at cX8_together 60 (.iconst 1) 1 61 ∧ Int32.ofInt (1) = (1 : Int32) := ⟨⟨vm_row tbX8_together 31 rfl, rfl⟩, z_iconst_1⟩
theorem dX8_together_61 : vm_at cX8_together 61 (.iadd) 1 62 := ⟨vm_row tbX8_together 32 rfl, rfl⟩
theorem dX8_together_62 : vm_at cX8_together 62 (.putfield 21) 3 65 := ⟨vm_row tbX8_together 33 rfl, rfl⟩
theorem dX8_together_65 : vm_at cX8_together 65 (.iinc 3 1) 3 68 ∧ Int32.ofInt (1) = (1 : Int32) := ⟨⟨vm_row tbX8_together 34 rfl, rfl⟩, z_iconst_1⟩
theorem dX8_together_68 : vm_br cX8_together 68 (.goto (-53)) 3 71 (-53) 15 := ⟨vm_row tbX8_together 35 rfl, rfl, rfl⟩
theorem dX8_together_71 : vm_at cX8_together 71 (.aload_n 0) 1 72 ∧ ((0 : Fin 4) : Nat) = 0 := ⟨⟨vm_row tbX8_together 36 rfl, rfl⟩, rfl⟩
theorem dX8_together_72 : vm_at cX8_together 72 (.aload_n 1) 1 73 ∧ ((1 : Fin 4) : Nat) = 1 := ⟨⟨vm_row tbX8_together 37 rfl, rfl⟩, rfl⟩
theorem dX8_together_73 : vm_at cX8_together 73 (.aload_n 2) 1 74 ∧ ((2 : Fin 4) : Nat) = 2 := ⟨⟨vm_row tbX8_together 38 rfl, rfl⟩, rfl⟩
theorem dX8_together_74 : vm_at cX8_together 74 (.getfield 141) 3 77 := ⟨vm_row tbX8_together 39 rfl, rfl⟩
theorem dX8_together_77 : vm_at cX8_together 77 (.invokevirtual 61) 3 80 := ⟨vm_row tbX8_together 40 rfl, rfl⟩
theorem dX8_together_80 : vm_at cX8_together 80 (.iconst 0) 1 81 ∧ Int32.ofInt (0) = (0 : Int32) := ⟨⟨vm_row tbX8_together 41 rfl, rfl⟩, z_iconst_0⟩
theorem dX8_together_81 : vm_at cX8_together 81 (.istore_n 3) 1 82 ∧ ((3 : Fin 4) : Nat) = 3 := ⟨⟨vm_row tbX8_together 42 rfl, rfl⟩, rfl⟩
theorem dX8_together_82 : vm_at cX8_together 82 (.iconst 0) 1 83 ∧ Int32.ofInt (0) = (0 : Int32) := ⟨⟨vm_row tbX8_together 43 rfl, rfl⟩, z_iconst_0⟩
theorem dX8_together_83 : vm_at cX8_together 83 (.istore 4) 2 85 := ⟨vm_row tbX8_together 44 rfl, rfl⟩
theorem dX8_together_85 : vm_at cX8_together 85 (.iload 4) 2 87 := ⟨vm_row tbX8_together 45 rfl, rfl⟩
theorem dX8_together_87 : vm_at cX8_together 87 (.aload_n 2) 1 88 ∧ ((2 : Fin 4) : Nat) = 2 := ⟨⟨vm_row tbX8_together 46 rfl, rfl⟩, rfl⟩
theorem dX8_together_88 : vm_at cX8_together 88 (.getfield 129) 3 91 := ⟨vm_row tbX8_together 47 rfl, rfl⟩
theorem dX8_together_91 : vm_br cX8_together 91 (.if_icmp .ge 40) 3 94 (40) 131 := ⟨vm_row tbX8_together 48 rfl, rfl, rfl⟩
theorem dX8_together_94 : vm_at cX8_together 94 (.aload_n 0) 1 95 ∧ ((0 : Fin 4) : Nat) = 0 := ⟨⟨vm_row tbX8_together 49 rfl, rfl⟩, rfl⟩
theorem dX8_together_95 : vm_at cX8_together 95 (.aload_n 2) 1 96 ∧ ((2 : Fin 4) : Nat) = 2 := ⟨⟨vm_row tbX8_together 50 rfl, rfl⟩, rfl⟩
theorem dX8_together_96 : vm_at cX8_together 96 (.getfield 134) 3 99 := ⟨vm_row tbX8_together 51 rfl, rfl⟩
theorem dX8_together_99 : vm_at cX8_together 99 (.iload 4) 2 101 := ⟨vm_row tbX8_together 52 rfl, rfl⟩
theorem dX8_together_101 : vm_at cX8_together 101 (.invokestatic 68) 3 104 := ⟨vm_row tbX8_together 53 rfl, rfl⟩
theorem dX8_together_104 : vm_at cX8_together 104 (.invokevirtual 72) 3 107 := ⟨vm_row tbX8_together 54 rfl, rfl⟩
theorem dX8_together_107 : vm_at cX8_together 107 (.istore 5) 2 109 := ⟨vm_row tbX8_together 55 rfl, rfl⟩
theorem dX8_together_109 : vm_at cX8_together 109 (.iload_n 3) 1 110 ∧ ((3 : Fin 4) : Nat) = 3 := ⟨⟨vm_row tbX8_together 56 rfl, rfl⟩, rfl⟩
theorem dX8_together_110 : vm_at cX8_together 110 (.iload 5) 2 112 := ⟨vm_row tbX8_together 57 rfl, rfl⟩
theorem dX8_together_112 : vm_at cX8_together 112 (.iconst (-1)) 1 113 ∧ Int32.ofInt (-1) = (-1 : Int32) := ⟨⟨vm_row tbX8_together 58 rfl, rfl⟩, z_iconst_m1⟩
theorem dX8_together_113 : vm_br cX8_together 113 (.if_icmp .ne 8) 3 116 (8) 121 := ⟨vm_row tbX8_together 59 rfl, rfl, rfl⟩
theorem dX8_together_116 : vm_at cX8_together 116 (.bipush 99) 2 118 ∧ (Int8.ofInt (99)).toInt32 = (99 : Int32) := ⟨⟨vm_row tbX8_together 60 rfl, rfl⟩, z_bipush_99⟩
theorem dX8_together_118 : vm_br cX8_together 118 (.goto 5) 3 121 (5) 123 := ⟨vm_row tbX8_together 61 rfl, rfl, rfl⟩
theorem dX8_together_121 : vm_at cX8_together 121 (.iload 5) 2 123 := ⟨vm_row tbX8_together 62 rfl, rfl⟩
theorem dX8_together_123 : vm_at cX8_together 123 (.iadd) 1 124 := ⟨vm_row tbX8_together 63 rfl, rfl⟩
theorem dX8_together_124 : vm_at cX8_together 124 (.istore_n 3) 1 125 ∧ ((3 : Fin 4) : Nat) = 3 := ⟨⟨vm_row tbX8_together 64 rfl, rfl⟩, rfl⟩
theorem dX8_together_125 : vm_at cX8_together 125 (.iinc 4 1) 3 128 ∧ Int32.ofInt (1) = (1 : Int32) := ⟨⟨vm_row tbX8_together 65 rfl, rfl⟩, z_iconst_1⟩
theorem dX8_together_128 : vm_br cX8_together 128 (.goto (-43)) 3 131 (-43) 85 := ⟨vm_row tbX8_together 66 rfl, rfl, rfl⟩
theorem dX8_together_131 : vm_at cX8_together 131 (.iload_n 3) 1 132 ∧ ((3 : Fin 4) : Nat) = 3 := ⟨⟨vm_row tbX8_together 67 rfl, rfl⟩, rfl⟩
theorem dX8_together_132 : vm_at cX8_together 132 (.ireturn) 1 133 := ⟨vm_row tbX8_together 68 rfl, rfl⟩
