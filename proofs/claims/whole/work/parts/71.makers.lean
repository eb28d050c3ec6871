/-! ===== the makers ===== -/
theorem dX0_init_0 : vm_at cX0_init 0 (.aload_n 0) 1 1 ∧ ((0 : Fin 4) : Nat) = 0 := by decide +kernel
theorem dX0_init_1 : vm_at cX0_init 1 (.invokespecial 3) 3 4 := by decide +kernel
theorem dX0_init_4 : vm_at cX0_init 4 (.aload_n 0) 1 5 ∧ ((0 : Fin 4) : Nat) = 0 := by decide +kernel
theorem dX0_init_5 : vm_at cX0_init 5 (.bipush 40) 2 7 ∧ (Int8.ofInt (40)).toInt32 = (40 : Int32) := by decide +kernel
theorem dX0_init_7 : vm_at cX0_init 7 (.newarray .int) 2 9 := by decide +kernel
theorem dX0_init_9 : vm_at cX0_init 9 (.putfield 9) 3 12 := by decide +kernel
theorem dX0_init_12 : vm_at cX0_init 12 (.aload_n 0) 1 13 ∧ ((0 : Fin 4) : Nat) = 0 := by decide +kernel
theorem dX0_init_13 : vm_at cX0_init 13 (.bipush 40) 2 15 ∧ (Int8.ofInt (40)).toInt32 = (40 : Int32) := by decide +kernel
theorem dX0_init_15 : vm_at cX0_init 15 (.newarray .int) 2 17 := by decide +kernel
theorem dX0_init_17 : vm_at cX0_init 17 (.putfield 15) 3 20 := by decide +kernel
theorem dX0_init_20 : vm_at cX0_init 20 (.aload_n 0) 1 21 ∧ ((0 : Fin 4) : Nat) = 0 := by decide +kernel
theorem dX0_init_21 : vm_at cX0_init 21 (.iconst 0) 1 22 ∧ Int32.ofInt (0) = (0 : Int32) := by decide +kernel
theorem dX0_init_22 : vm_at cX0_init 22 (.putfield 18) 3 25 := by decide +kernel
theorem dX0_init_25 : vm_at cX0_init 25 (.return_) 1 26 := by decide +kernel
theorem dX1_init_0 : vm_at cX1_init 0 (.aload_n 0) 1 1 ∧ ((0 : Fin 4) : Nat) = 0 := by decide +kernel
theorem dX1_init_1 : vm_at cX1_init 1 (.invokespecial 3) 3 4 := by decide +kernel
theorem dX1_init_4 : vm_at cX1_init 4 (.aload_n 0) 1 5 ∧ ((0 : Fin 4) : Nat) = 0 := by decide +kernel
theorem dX1_init_5 : vm_at cX1_init 5 (.sipush 602) 3 8 ∧ (Int16.ofInt (602)).toInt32 = (602 : Int32) := by decide +kernel
theorem dX1_init_8 : vm_at cX1_init 8 (.newarray .int) 2 10 := by decide +kernel
theorem dX1_init_10 : vm_at cX1_init 10 (.putfield 9) 3 13 := by decide +kernel
theorem dX1_init_13 : vm_at cX1_init 13 (.aload_n 0) 1 14 ∧ ((0 : Fin 4) : Nat) = 0 := by decide +kernel
theorem dX1_init_14 : vm_at cX1_init 14 (.sipush 602) 3 17 ∧ (Int16.ofInt (602)).toInt32 = (602 : Int32) := by decide +kernel
theorem dX1_init_17 : vm_at cX1_init 17 (.newarray .int) 2 19 := by decide +kernel
theorem dX1_init_19 : vm_at cX1_init 19 (.putfield 15) 3 22 := by decide +kernel
theorem dX1_init_22 : vm_at cX1_init 22 (.aload_n 0) 1 23 ∧ ((0 : Fin 4) : Nat) = 0 := by decide +kernel
theorem dX1_init_23 : vm_at cX1_init 23 (.iconst 0) 1 24 ∧ Int32.ofInt (0) = (0 : Int32) := by decide +kernel
theorem dX1_init_24 : vm_at cX1_init 24 (.putfield 18) 3 27 := by decide +kernel
theorem dX1_init_27 : vm_at cX1_init 27 (.aload_n 0) 1 28 ∧ ((0 : Fin 4) : Nat) = 0 := by decide +kernel
theorem dX1_init_28 : vm_at cX1_init 28 (.sipush 602) 3 31 ∧ (Int16.ofInt (602)).toInt32 = (602 : Int32) := by decide +kernel
theorem dX1_init_31 : vm_at cX1_init 31 (.newarray .int) 2 33 := by decide +kernel
theorem dX1_init_33 : vm_at cX1_init 33 (.putfield 22) 3 36 := by decide +kernel
theorem dX1_init_36 : vm_at cX1_init 36 (.aload_n 0) 1 37 ∧ ((0 : Fin 4) : Nat) = 0 := by decide +kernel
theorem dX1_init_37 : vm_at cX1_init 37 (.sipush 602) 3 40 ∧ (Int16.ofInt (602)).toInt32 = (602 : Int32) := by decide +kernel
theorem dX1_init_40 : vm_at cX1_init 40 (.newarray .int) 2 42 := by decide +kernel
theorem dX1_init_42 : vm_at cX1_init 42 (.putfield 25) 3 45 := by decide +kernel
theorem dX1_init_45 : vm_at cX1_init 45 (.aload_n 0) 1 46 ∧ ((0 : Fin 4) : Nat) = 0 := by decide +kernel
theorem dX1_init_46 : vm_at cX1_init 46 (.iconst 0) 1 47 ∧ Int32.ofInt (0) = (0 : Int32) := by decide +kernel
theorem dX1_init_47 : vm_at cX1_init 47 (.putfield 28) 3 50 := by decide +kernel
theorem dX1_init_50 : vm_at cX1_init 50 (.aload_n 0) 1 51 ∧ ((0 : Fin 4) : Nat) = 0 := by decide +kernel
theorem dX1_init_51 : vm_at cX1_init 51 (.aload_n 1) 1 52 ∧ ((1 : Fin 4) : Nat) = 1 := by decide +kernel
theorem dX1_init_52 : vm_at cX1_init 52 (.putfield 31) 3 55 := by decide +kernel
theorem dX1_init_55 : vm_at cX1_init 55 (.return_) 1 56 := by decide +kernel
theorem dX2_init_0 : vm_at cX2_init 0 (.aload_n 0) 1 1 ∧ ((0 : Fin 4) : Nat) = 0 := by decide +kernel
theorem dX2_init_1 : vm_at cX2_init 1 (.invokespecial 3) 3 4 := by decide +kernel
theorem dX2_init_4 : vm_at cX2_init 4 (.aload_n 0) 1 5 ∧ ((0 : Fin 4) : Nat) = 0 := by decide +kernel
theorem dX2_init_5 : vm_at cX2_init 5 (.bipush 100) 2 7 ∧ (Int8.ofInt (100)).toInt32 = (100 : Int32) := by decide +kernel
theorem dX2_init_7 : vm_at cX2_init 7 (.newarray .int) 2 9 := by decide +kernel
theorem dX2_init_9 : vm_at cX2_init 9 (.putfield 9) 3 12 := by decide +kernel
theorem dX2_init_12 : vm_at cX2_init 12 (.aload_n 0) 1 13 ∧ ((0 : Fin 4) : Nat) = 0 := by decide +kernel
theorem dX2_init_13 : vm_at cX2_init 13 (.bipush 8) 2 15 ∧ (Int8.ofInt (8)).toInt32 = (8 : Int32) := by decide +kernel
theorem dX2_init_15 : vm_at cX2_init 15 (.newarray .int) 2 17 := by decide +kernel
theorem dX2_init_17 : vm_at cX2_init 17 (.putfield 15) 3 20 := by decide +kernel
theorem dX2_init_20 : vm_at cX2_init 20 (.aload_n 0) 1 21 ∧ ((0 : Fin 4) : Nat) = 0 := by decide +kernel
theorem dX2_init_21 : vm_at cX2_init 21 (.iconst 0) 1 22 ∧ Int32.ofInt (0) = (0 : Int32) := by decide +kernel
theorem dX2_init_22 : vm_at cX2_init 22 (.putfield 18) 3 25 := by decide +kernel
theorem dX2_init_25 : vm_at cX2_init 25 (.aload_n 0) 1 26 ∧ ((0 : Fin 4) : Nat) = 0 := by decide +kernel
theorem dX2_init_26 : vm_at cX2_init 26 (.iconst 0) 1 27 ∧ Int32.ofInt (0) = (0 : Int32) := by decide +kernel
theorem dX2_init_27 : vm_at cX2_init 27 (.putfield 22) 3 30 := by decide +kernel
theorem dX2_init_30 : vm_at cX2_init 30 (.aload_n 0) 1 31 ∧ ((0 : Fin 4) : Nat) = 0 := by decide +kernel
theorem dX2_init_31 : vm_at cX2_init 31 (.iconst 0) 1 32 ∧ Int32.ofInt (0) = (0 : Int32) := by decide +kernel
theorem dX2_init_32 : vm_at cX2_init 32 (.putfield 25) 3 35 := by decide +kernel
theorem dX2_init_35 : vm_at cX2_init 35 (.aload_n 0) 1 36 ∧ ((0 : Fin 4) : Nat) = 0 := by decide +kernel
theorem dX2_init_36 : vm_at cX2_init 36 (.aload_n 1) 1 37 ∧ ((1 : Fin 4) : Nat) = 1 := by decide +kernel
theorem dX2_init_37 : vm_at cX2_init 37 (.putfield 29) 3 40 := by decide +kernel
theorem dX2_init_40 : vm_at cX2_init 40 (.return_) 1 41 := by decide +kernel
theorem dX3_init_0 : vm_at cX3_init 0 (.aload_n 0) 1 1 ∧ ((0 : Fin 4) : Nat) = 0 := by decide +kernel
theorem dX3_init_1 : vm_at cX3_init 1 (.invokespecial 3) 3 4 := by decide +kernel
theorem dX3_init_4 : vm_at cX3_init 4 (.aload_n 0) 1 5 ∧ ((0 : Fin 4) : Nat) = 0 := by decide +kernel
theorem dX3_init_5 : vm_at cX3_init 5 (.iconst 0) 1 6 ∧ Int32.ofInt (0) = (0 : Int32) := by decide +kernel
theorem dX3_init_6 : vm_at cX3_init 6 (.putfield 9) 3 9 := by decide +kernel
theorem dX3_init_9 : vm_at cX3_init 9 (.aload_n 0) 1 10 ∧ ((0 : Fin 4) : Nat) = 0 := by decide +kernel
theorem dX3_init_10 : vm_at cX3_init 10 (.iconst (-1)) 1 11 ∧ Int32.ofInt (-1) = (-1 : Int32) := by decide +kernel
theorem dX3_init_11 : vm_at cX3_init 11 (.putfield 15) 3 14 := by decide +kernel
theorem dX3_init_14 : vm_at cX3_init 14 (.return_) 1 15 := by decide +kernel
theorem dX4_init_0 : vm_at cX4_init 0 (.aload_n 0) 1 1 ∧ ((0 : Fin 4) : Nat) = 0 := by decide +kernel
theorem dX4_init_1 : vm_at cX4_init 1 (.invokespecial 3) 3 4 := by decide +kernel
theorem dX4_init_4 : vm_at cX4_init 4 (.aload_n 0) 1 5 ∧ ((0 : Fin 4) : Nat) = 0 := by decide +kernel
theorem dX4_init_5 : vm_at cX4_init 5 (.iconst 0) 1 6 ∧ Int32.ofInt (0) = (0 : Int32) := by decide +kernel
theorem dX4_init_6 : vm_at cX4_init 6 (.putfield 9) 3 9 := by decide +kernel
theorem dX4_init_9 : vm_at cX4_init 9 (.aload_n 0) 1 10 ∧ ((0 : Fin 4) : Nat) = 0 := by decide +kernel
theorem dX4_init_10 : vm_at cX4_init 10 (.iconst 0) 1 11 ∧ Int32.ofInt (0) = (0 : Int32) := by decide +kernel
theorem dX4_init_11 : vm_at cX4_init 11 (.putfield 15) 3 14 := by decide +kernel
theorem dX4_init_14 : vm_at cX4_init 14 (.aload_n 0) 1 15 ∧ ((0 : Fin 4) : Nat) = 0 := by decide +kernel
theorem dX4_init_15 : vm_at cX4_init 15 (.aload_n 1) 1 16 ∧ ((1 : Fin 4) : Nat) = 1 := by decide +kernel
theorem dX4_init_16 : vm_at cX4_init 16 (.putfield 18) 3 19 := by decide +kernel
theorem dX4_init_19 : vm_at cX4_init 19 (.return_) 1 20 := by decide +kernel
theorem dX5_init_0 : vm_at cX5_init 0 (.aload_n 0) 1 1 ∧ ((0 : Fin 4) : Nat) = 0 := by decide +kernel
theorem dX5_init_1 : vm_at cX5_init 1 (.invokespecial 3) 3 4 := by decide +kernel
theorem dX5_init_4 : vm_at cX5_init 4 (.aload_n 0) 1 5 ∧ ((0 : Fin 4) : Nat) = 0 := by decide +kernel
theorem dX5_init_5 : vm_at cX5_init 5 (.iconst 0) 1 6 ∧ Int32.ofInt (0) = (0 : Int32) := by decide +kernel
theorem dX5_init_6 : vm_at cX5_init 6 (.putfield 9) 3 9 := by decide +kernel
theorem dX5_init_9 : vm_at cX5_init 9 (.aload_n 0) 1 10 ∧ ((0 : Fin 4) : Nat) = 0 := by decide +kernel
theorem dX5_init_10 : vm_at cX5_init 10 (.iconst 0) 1 11 ∧ Int32.ofInt (0) = (0 : Int32) := by decide +kernel
theorem dX5_init_11 : vm_at cX5_init 11 (.putfield 15) 3 14 := by decide +kernel
theorem dX5_init_14 : vm_at cX5_init 14 (.aload_n 0) 1 15 ∧ ((0 : Fin 4) : Nat) = 0 := by decide +kernel
theorem dX5_init_15 : vm_at cX5_init 15 (.iconst 0) 1 16 ∧ Int32.ofInt (0) = (0 : Int32) := by decide +kernel
theorem dX5_init_16 : vm_at cX5_init 16 (.putfield 18) 3 19 := by decide +kernel
theorem dX5_init_19 : vm_at cX5_init 19 (.aload_n 0) 1 20 ∧ ((0 : Fin 4) : Nat) = 0 := by decide +kernel
theorem dX5_init_20 : vm_at cX5_init 20 (.iconst 0) 1 21 ∧ Int32.ofInt (0) = (0 : Int32) := by decide +kernel
theorem dX5_init_21 : vm_at cX5_init 21 (.putfield 21) 3 24 := by decide +kernel
theorem dX5_init_24 : vm_at cX5_init 24 (.aload_n 0) 1 25 ∧ ((0 : Fin 4) : Nat) = 0 := by decide +kernel
theorem dX5_init_25 : vm_at cX5_init 25 (.iconst 0) 1 26 ∧ Int32.ofInt (0) = (0 : Int32) := by decide +kernel
theorem dX5_init_26 : vm_at cX5_init 26 (.putfield 24) 3 29 := by decide +kernel
theorem dX5_init_29 : vm_at cX5_init 29 (.aload_n 0) 1 30 ∧ ((0 : Fin 4) : Nat) = 0 := by decide +kernel
theorem dX5_init_30 : vm_at cX5_init 30 (.bipush 6) 2 32 ∧ (Int8.ofInt (6)).toInt32 = (6 : Int32) := by decide +kernel
theorem dX5_init_32 : vm_at cX5_init 32 (.newarray .int) 2 34 := by decide +kernel
theorem dX5_init_34 : vm_at cX5_init 34 (.putfield 28) 3 37 := by decide +kernel
theorem dX5_init_37 : vm_at cX5_init 37 (.return_) 1 38 := by decide +kernel
theorem dX6_init_0 : vm_at cX6_init 0 (.aload_n 0) 1 1 ∧ ((0 : Fin 4) : Nat) = 0 := by decide +kernel
theorem dX6_init_1 : vm_at cX6_init 1 (.invokespecial 3) 3 4 := by decide +kernel
theorem dX6_init_4 : vm_at cX6_init 4 (.aload_n 0) 1 5 ∧ ((0 : Fin 4) : Nat) = 0 := by decide +kernel
theorem dX6_init_5 : vm_at cX6_init 5 (.iconst (-1)) 1 6 ∧ Int32.ofInt (-1) = (-1 : Int32) := by decide +kernel
theorem dX6_init_6 : vm_at cX6_init 6 (.putfield 9) 3 9 := by decide +kernel
theorem dX6_init_9 : vm_at cX6_init 9 (.aload_n 0) 1 10 ∧ ((0 : Fin 4) : Nat) = 0 := by decide +kernel
theorem dX6_init_10 : vm_at cX6_init 10 (.iconst 0) 1 11 ∧ Int32.ofInt (0) = (0 : Int32) := by decide +kernel
theorem dX6_init_11 : vm_at cX6_init 11 (.putfield 15) 3 14 := by decide +kernel
theorem dX6_init_14 : vm_at cX6_init 14 (.aload_n 0) 1 15 ∧ ((0 : Fin 4) : Nat) = 0 := by decide +kernel
theorem dX6_init_15 : vm_at cX6_init 15 (.iconst 0) 1 16 ∧ Int32.ofInt (0) = (0 : Int32) := by decide +kernel
theorem dX6_init_16 : vm_at cX6_init 16 (.putfield 18) 3 19 := by decide +kernel
theorem dX6_init_19 : vm_at cX6_init 19 (.aload_n 0) 1 20 ∧ ((0 : Fin 4) : Nat) = 0 := by decide +kernel
theorem dX6_init_20 : vm_at cX6_init 20 (.iconst 0) 1 21 ∧ Int32.ofInt (0) = (0 : Int32) := by decide +kernel
theorem dX6_init_21 : vm_at cX6_init 21 (.putfield 21) 3 24 := by decide +kernel
theorem dX6_init_24 : vm_at cX6_init 24 (.aload_n 0) 1 25 ∧ ((0 : Fin 4) : Nat) = 0 := by decide +kernel
theorem dX6_init_25 : vm_at cX6_init 25 (.iconst 0) 1 26 ∧ Int32.ofInt (0) = (0 : Int32) := by decide +kernel
theorem dX6_init_26 : vm_at cX6_init 26 (.putfield 24) 3 29 := by decide +kernel
theorem dX6_init_29 : vm_at cX6_init 29 (.aload_n 0) 1 30 ∧ ((0 : Fin 4) : Nat) = 0 := by decide +kernel
theorem dX6_init_30 : vm_at cX6_init 30 (.bipush 9) 2 32 ∧ (Int8.ofInt (9)).toInt32 = (9 : Int32) := by decide +kernel
theorem dX6_init_32 : vm_at cX6_init 32 (.newarray .int) 2 34 := by decide +kernel
theorem dX6_init_34 : vm_at cX6_init 34 (.putfield 27) 3 37 := by decide +kernel
theorem dX6_init_37 : vm_at cX6_init 37 (.aload_n 0) 1 38 ∧ ((0 : Fin 4) : Nat) = 0 := by decide +kernel
theorem dX6_init_38 : vm_at cX6_init 38 (.bipush 9) 2 40 ∧ (Int8.ofInt (9)).toInt32 = (9 : Int32) := by decide +kernel
theorem dX6_init_40 : vm_at cX6_init 40 (.newarray .int) 2 42 := by decide +kernel
theorem dX6_init_42 : vm_at cX6_init 42 (.putfield 31) 3 45 := by decide +kernel
theorem dX6_init_45 : vm_at cX6_init 45 (.aload_n 0) 1 46 ∧ ((0 : Fin 4) : Nat) = 0 := by decide +kernel
theorem dX6_init_46 : vm_at cX6_init 46 (.bipush 9) 2 48 ∧ (Int8.ofInt (9)).toInt32 = (9 : Int32) := by decide +kernel
theorem dX6_init_48 : vm_at cX6_init 48 (.newarray .int) 2 50 := by decide +kernel
theorem dX6_init_50 : vm_at cX6_init 50 (.putfield 34) 3 53 := by decide +kernel
theorem dX6_init_53 : vm_at cX6_init 53 (.aload_n 0) 1 54 ∧ ((0 : Fin 4) : Nat) = 0 := by decide +kernel
theorem dX6_init_54 : vm_at cX6_init 54 (.bipush 9) 2 56 ∧ (Int8.ofInt (9)).toInt32 = (9 : Int32) := by decide +kernel
theorem dX6_init_56 : vm_at cX6_init 56 (.newarray .int) 2 58 := by decide +kernel
theorem dX6_init_58 : vm_at cX6_init 58 (.putfield 37) 3 61 := by decide +kernel
theorem dX6_init_61 : vm_at cX6_init 61 (.return_) 1 62 := by decide +kernel
theorem dX7_init_0 : vm_at cX7_init 0 (.aload_n 0) 1 1 ∧ ((0 : Fin 4) : Nat) = 0 := by decide +kernel
theorem dX7_init_1 : vm_at cX7_init 1 (.invokespecial 3) 3 4 := by decide +kernel
theorem dX7_init_4 : vm_at cX7_init 4 (.aload_n 0) 1 5 ∧ ((0 : Fin 4) : Nat) = 0 := by decide +kernel
theorem dX7_init_5 : vm_at cX7_init 5 (.sipush 2048) 3 8 ∧ (Int16.ofInt (2048)).toInt32 = (2048 : Int32) := by decide +kernel
theorem dX7_init_8 : vm_at cX7_init 8 (.newarray .long) 2 10 := by decide +kernel
theorem dX7_init_10 : vm_at cX7_init 10 (.putfield 9) 3 13 := by decide +kernel
theorem dX7_init_13 : vm_at cX7_init 13 (.aload_n 0) 1 14 ∧ ((0 : Fin 4) : Nat) = 0 := by decide +kernel
theorem dX7_init_14 : vm_at cX7_init 14 (.ldc 15) 2 16 := by decide +kernel
theorem dX7_init_16 : vm_at cX7_init 16 (.newarray .int) 2 18 := by decide +kernel
theorem dX7_init_18 : vm_at cX7_init 18 (.putfield 16) 3 21 := by decide +kernel
theorem dX7_init_21 : vm_at cX7_init 21 (.aload_n 0) 1 22 ∧ ((0 : Fin 4) : Nat) = 0 := by decide +kernel
theorem dX7_init_22 : vm_at cX7_init 22 (.ldc 15) 2 24 := by decide +kernel
theorem dX7_init_24 : vm_at cX7_init 24 (.newarray .int) 2 26 := by decide +kernel
theorem dX7_init_26 : vm_at cX7_init 26 (.putfield 20) 3 29 := by decide +kernel
theorem dX7_init_29 : vm_at cX7_init 29 (.aload_n 0) 1 30 ∧ ((0 : Fin 4) : Nat) = 0 := by decide +kernel
theorem dX7_init_30 : vm_at cX7_init 30 (.iconst 0) 1 31 ∧ Int32.ofInt (0) = (0 : Int32) := by decide +kernel
theorem dX7_init_31 : vm_at cX7_init 31 (.putfield 23) 3 34 := by decide +kernel
theorem dX7_init_34 : vm_at cX7_init 34 (.aload_n 0) 1 35 ∧ ((0 : Fin 4) : Nat) = 0 := by decide +kernel
theorem dX7_init_35 : vm_at cX7_init 35 (.iconst 0) 1 36 ∧ Int32.ofInt (0) = (0 : Int32) := by decide +kernel
theorem dX7_init_36 : vm_at cX7_init 36 (.putfield 27) 3 39 := by decide +kernel
theorem dX7_init_39 : vm_at cX7_init 39 (.return_) 1 40 := by decide +kernel
theorem dX8_init_0 : vm_at cX8_init 0 (.aload_n 0) 1 1 ∧ ((0 : Fin 4) : Nat) = 0 := by decide +kernel
theorem dX8_init_1 : vm_at cX8_init 1 (.invokespecial 3) 3 4 := by decide +kernel
theorem dX8_init_4 : vm_at cX8_init 4 (.aload_n 0) 1 5 ∧ ((0 : Fin 4) : Nat) = 0 := by decide +kernel
theorem dX8_init_5 : vm_at cX8_init 5 (.bipush 100) 2 7 ∧ (Int8.ofInt (100)).toInt32 = (100 : Int32) := by decide +kernel
theorem dX8_init_7 : vm_at cX8_init 7 (.newarray .int) 2 9 := by decide +kernel
theorem dX8_init_9 : vm_at cX8_init 9 (.putfield 9) 3 12 := by decide +kernel
theorem dX8_init_12 : vm_at cX8_init 12 (.aload_n 0) 1 13 ∧ ((0 : Fin 4) : Nat) = 0 := by decide +kernel
theorem dX8_init_13 : vm_at cX8_init 13 (.bipush 100) 2 15 ∧ (Int8.ofInt (100)).toInt32 = (100 : Int32) := by decide +kernel
theorem dX8_init_15 : vm_at cX8_init 15 (.newarray .int) 2 17 := by decide +kernel
theorem dX8_init_17 : vm_at cX8_init 17 (.putfield 15) 3 20 := by decide +kernel
theorem dX8_init_20 : vm_at cX8_init 20 (.aload_n 0) 1 21 ∧ ((0 : Fin 4) : Nat) = 0 := by decide +kernel
theorem dX8_init_21 : vm_at cX8_init 21 (.bipush 100) 2 23 ∧ (Int8.ofInt (100)).toInt32 = (100 : Int32) := by decide +kernel
theorem dX8_init_23 : vm_at cX8_init 23 (.newarray .int) 2 25 := by decide +kernel
theorem dX8_init_25 : vm_at cX8_init 25 (.putfield 18) 3 28 := by decide +kernel
theorem dX8_init_28 : vm_at cX8_init 28 (.aload_n 0) 1 29 ∧ ((0 : Fin 4) : Nat) = 0 := by decide +kernel
theorem dX8_init_29 : vm_at cX8_init 29 (.iconst 0) 1 30 ∧ Int32.ofInt (0) = (0 : Int32) := by decide +kernel
theorem dX8_init_30 : vm_at cX8_init 30 (.putfield 21) 3 33 := by decide +kernel
theorem dX8_init_33 : vm_at cX8_init 33 (.aload_n 0) 1 34 ∧ ((0 : Fin 4) : Nat) = 0 := by decide +kernel
theorem dX8_init_34 : vm_at cX8_init 34 (.iconst 0) 1 35 ∧ Int32.ofInt (0) = (0 : Int32) := by decide +kernel
theorem dX8_init_35 : vm_at cX8_init 35 (.putfield 25) 3 38 := by decide +kernel
theorem dX8_init_38 : vm_at cX8_init 38 (.aload_n 0) 1 39 ∧ ((0 : Fin 4) : Nat) = 0 := by decide +kernel
theorem dX8_init_39 : vm_at cX8_init 39 (.iconst 0) 1 40 ∧ Int32.ofInt (0) = (0 : Int32) := by decide +kernel
theorem dX8_init_40 : vm_at cX8_init 40 (.putfield 29) 3 43 := by decide +kernel
theorem dX8_init_43 : vm_at cX8_init 43 (.aload_n 0) 1 44 ∧ ((0 : Fin 4) : Nat) = 0 := by decide +kernel
theorem dX8_init_44 : vm_at cX8_init 44 (.iconst (-1)) 1 45 ∧ Int32.ofInt (-1) = (-1 : Int32) := by decide +kernel
theorem dX8_init_45 : vm_at cX8_init 45 (.putfield 32) 3 48 := by decide +kernel
theorem dX8_init_48 : vm_at cX8_init 48 (.aload_n 0) 1 49 ∧ ((0 : Fin 4) : Nat) = 0 := by decide +kernel
theorem dX8_init_49 : vm_at cX8_init 49 (.iconst (-1)) 1 50 ∧ Int32.ofInt (-1) = (-1 : Int32) := by decide +kernel
theorem dX8_init_50 : vm_at cX8_init 50 (.putfield 35) 3 53 := by decide +kernel
theorem dX8_init_53 : vm_at cX8_init 53 (.aload_n 0) 1 54 ∧ ((0 : Fin 4) : Nat) = 0 := by decide +kernel
theorem dX8_init_54 : vm_at cX8_init 54 (.iconst (-1)) 1 55 ∧ Int32.ofInt (-1) = (-1 : Int32) := by decide +kernel
theorem dX8_init_55 : vm_at cX8_init 55 (.putfield 38) 3 58 := by decide +kernel
theorem dX8_init_58 : vm_at cX8_init 58 (.aload_n 0) 1 59 ∧ ((0 : Fin 4) : Nat) = 0 := by decide +kernel
theorem dX8_init_59 : vm_at cX8_init 59 (.aload_n 1) 1 60 ∧ ((1 : Fin 4) : Nat) = 1 := by decide +kernel
theorem dX8_init_60 : vm_at cX8_init 60 (.putfield 41) 3 63 := by decide +kernel
theorem dX8_init_63 : vm_at cX8_init 63 (.return_) 1 64 := by decide +kernel
theorem dX9_init_0 : vm_at cX9_init 0 (.aload_n 0) 1 1 ∧ ((0 : Fin 4) : Nat) = 0 := by decide +kernel
theorem dX9_init_1 : vm_at cX9_init 1 (.invokespecial 3) 3 4 := by decide +kernel
theorem dX9_init_4 : vm_at cX9_init 4 (.aload_n 0) 1 5 ∧ ((0 : Fin 4) : Nat) = 0 := by decide +kernel
theorem dX9_init_5 : vm_at cX9_init 5 (.sipush 400) 3 8 ∧ (Int16.ofInt (400)).toInt32 = (400 : Int32) := by decide +kernel
theorem dX9_init_8 : vm_at cX9_init 8 (.newarray .int) 2 10 := by decide +kernel
theorem dX9_init_10 : vm_at cX9_init 10 (.putfield 9) 3 13 := by decide +kernel
theorem dX9_init_13 : vm_at cX9_init 13 (.aload_n 0) 1 14 ∧ ((0 : Fin 4) : Nat) = 0 := by decide +kernel
theorem dX9_init_14 : vm_at cX9_init 14 (.iconst 0) 1 15 ∧ Int32.ofInt (0) = (0 : Int32) := by decide +kernel
theorem dX9_init_15 : vm_at cX9_init 15 (.putfield 15) 3 18 := by decide +kernel
theorem dX9_init_18 : vm_at cX9_init 18 (.aload_n 0) 1 19 ∧ ((0 : Fin 4) : Nat) = 0 := by decide +kernel
theorem dX9_init_19 : vm_at cX9_init 19 (.iconst 0) 1 20 ∧ Int32.ofInt (0) = (0 : Int32) := by decide +kernel
theorem dX9_init_20 : vm_at cX9_init 20 (.putfield 19) 3 23 := by decide +kernel
theorem dX9_init_23 : vm_at cX9_init 23 (.aload_n 0) 1 24 ∧ ((0 : Fin 4) : Nat) = 0 := by decide +kernel
theorem dX9_init_24 : vm_at cX9_init 24 (.iconst (-1)) 1 25 ∧ Int32.ofInt (-1) = (-1 : Int32) := by decide +kernel
theorem dX9_init_25 : vm_at cX9_init 25 (.putfield 22) 3 28 := by decide +kernel
theorem dX9_init_28 : vm_at cX9_init 28 (.aload_n 0) 1 29 ∧ ((0 : Fin 4) : Nat) = 0 := by decide +kernel
theorem dX9_init_29 : vm_at cX9_init 29 (.iconst 0) 1 30 ∧ Int32.ofInt (0) = (0 : Int32) := by decide +kernel
theorem dX9_init_30 : vm_at cX9_init 30 (.putfield 25) 3 33 := by decide +kernel
theorem dX9_init_33 : vm_at cX9_init 33 (.aload_n 0) 1 34 ∧ ((0 : Fin 4) : Nat) = 0 := by decide +kernel
theorem dX9_init_34 : vm_at cX9_init 34 (.iconst 0) 1 35 ∧ Int32.ofInt (0) = (0 : Int32) := by decide +kernel
theorem dX9_init_35 : vm_at cX9_init 35 (.putfield 28) 3 38 := by decide +kernel
theorem dX9_init_38 : vm_at cX9_init 38 (.aload_n 0) 1 39 ∧ ((0 : Fin 4) : Nat) = 0 := by decide +kernel
theorem dX9_init_39 : vm_at cX9_init 39 (.iconst 0) 1 40 ∧ Int32.ofInt (0) = (0 : Int32) := by decide +kernel
theorem dX9_init_40 : vm_at cX9_init 40 (.putfield 31) 3 43 := by decide +kernel
theorem dX9_init_43 : vm_at cX9_init 43 (.aload_n 0) 1 44 ∧ ((0 : Fin 4) : Nat) = 0 := by decide +kernel
theorem dX9_init_44 : vm_at cX9_init 44 (.iconst 0) 1 45 ∧ Int32.ofInt (0) = (0 : Int32) := by decide +kernel
theorem dX9_init_45 : vm_at cX9_init 45 (.putfield 34) 3 48 := by decide +kernel
theorem dX9_init_48 : vm_at cX9_init 48 (.return_) 1 49 := by decide +kernel
theorem dX10_init_0 : vm_at cX10_init 0 (.aload_n 0) 1 1 ∧ ((0 : Fin 4) : Nat) = 0 := by decide +kernel
theorem dX10_init_1 : vm_at cX10_init 1 (.invokespecial 3) 3 4 := by decide +kernel
theorem dX10_init_4 : vm_at cX10_init 4 (.aload_n 0) 1 5 ∧ ((0 : Fin 4) : Nat) = 0 := by decide +kernel
theorem dX10_init_5 : vm_at cX10_init 5 (.bipush 40) 2 7 ∧ (Int8.ofInt (40)).toInt32 = (40 : Int32) := by decide +kernel
theorem dX10_init_7 : vm_at cX10_init 7 (.newarray .int) 2 9 := by decide +kernel
theorem dX10_init_9 : vm_at cX10_init 9 (.putfield 9) 3 12 := by decide +kernel
theorem dX10_init_12 : vm_at cX10_init 12 (.aload_n 0) 1 13 ∧ ((0 : Fin 4) : Nat) = 0 := by decide +kernel
theorem dX10_init_13 : vm_at cX10_init 13 (.bipush 40) 2 15 ∧ (Int8.ofInt (40)).toInt32 = (40 : Int32) := by decide +kernel
theorem dX10_init_15 : vm_at cX10_init 15 (.newarray .int) 2 17 := by decide +kernel
theorem dX10_init_17 : vm_at cX10_init 17 (.putfield 15) 3 20 := by decide +kernel
theorem dX10_init_20 : vm_at cX10_init 20 (.aload_n 0) 1 21 ∧ ((0 : Fin 4) : Nat) = 0 := by decide +kernel
theorem dX10_init_21 : vm_at cX10_init 21 (.bipush 8) 2 23 ∧ (Int8.ofInt (8)).toInt32 = (8 : Int32) := by decide +kernel
theorem dX10_init_23 : vm_at cX10_init 23 (.newarray .int) 2 25 := by decide +kernel
theorem dX10_init_25 : vm_at cX10_init 25 (.putfield 18) 3 28 := by decide +kernel
theorem dX10_init_28 : vm_at cX10_init 28 (.aload_n 0) 1 29 ∧ ((0 : Fin 4) : Nat) = 0 := by decide +kernel
theorem dX10_init_29 : vm_at cX10_init 29 (.iconst 0) 1 30 ∧ Int32.ofInt (0) = (0 : Int32) := by decide +kernel
theorem dX10_init_30 : vm_at cX10_init 30 (.putfield 21) 3 33 := by decide +kernel
theorem dX10_init_33 : vm_at cX10_init 33 (.return_) 1 34 := by decide +kernel
theorem dX12_init_0 : vm_at cX12_init 0 (.aload_n 0) 1 1 ∧ ((0 : Fin 4) : Nat) = 0 := by decide +kernel
theorem dX12_init_1 : vm_at cX12_init 1 (.invokespecial 1) 3 4 := by decide +kernel
theorem dX12_init_4 : vm_at cX12_init 4 (.aload_n 0) 1 5 ∧ ((0 : Fin 4) : Nat) = 0 := by decide +kernel
theorem dX12_init_5 : vm_at cX12_init 5 (.iconst (-1)) 1 6 ∧ Int32.ofInt (-1) = (-1 : Int32) := by decide +kernel
theorem dX12_init_6 : vm_at cX12_init 6 (.putfield 7) 3 9 := by decide +kernel
theorem dX12_init_9 : vm_at cX12_init 9 (.aload_n 0) 1 10 ∧ ((0 : Fin 4) : Nat) = 0 := by decide +kernel
theorem dX12_init_10 : vm_at cX12_init 10 (.bipush 36) 2 12 ∧ (Int8.ofInt (36)).toInt32 = (36 : Int32) := by decide +kernel
theorem dX12_init_12 : vm_at cX12_init 12 (.newarray .int) 2 14 := by decide +kernel
theorem dX12_init_14 : vm_at cX12_init 14 (.putfield 13) 3 17 := by decide +kernel
theorem dX12_init_17 : vm_at cX12_init 17 (.aload_n 0) 1 18 ∧ ((0 : Fin 4) : Nat) = 0 := by decide +kernel
theorem dX12_init_18 : vm_at cX12_init 18 (.sipush 400) 3 21 ∧ (Int16.ofInt (400)).toInt32 = (400 : Int32) := by decide +kernel
theorem dX12_init_21 : vm_at cX12_init 21 (.newarray .int) 2 23 := by decide +kernel
theorem dX12_init_23 : vm_at cX12_init 23 (.putfield 17) 3 26 := by decide +kernel
theorem dX12_init_26 : vm_at cX12_init 26 (.aload_n 0) 1 27 ∧ ((0 : Fin 4) : Nat) = 0 := by decide +kernel
theorem dX12_init_27 : vm_at cX12_init 27 (.iconst (-1)) 1 28 ∧ Int32.ofInt (-1) = (-1 : Int32) := by decide +kernel
theorem dX12_init_28 : vm_at cX12_init 28 (.putfield 20) 3 31 := by decide +kernel
theorem dX12_init_31 : vm_at cX12_init 31 (.aload_n 0) 1 32 ∧ ((0 : Fin 4) : Nat) = 0 := by decide +kernel
theorem dX12_init_32 : vm_at cX12_init 32 (.bipush 32) 2 34 ∧ (Int8.ofInt (32)).toInt32 = (32 : Int32) := by decide +kernel
theorem dX12_init_34 : vm_at cX12_init 34 (.newarray .int) 2 36 := by decide +kernel
theorem dX12_init_36 : vm_at cX12_init 36 (.putfield 23) 3 39 := by decide +kernel
theorem dX12_init_39 : vm_at cX12_init 39 (.aload_n 0) 1 40 ∧ ((0 : Fin 4) : Nat) = 0 := by decide +kernel
theorem dX12_init_40 : vm_at cX12_init 40 (.bipush 6) 2 42 ∧ (Int8.ofInt (6)).toInt32 = (6 : Int32) := by decide +kernel
theorem dX12_init_42 : vm_at cX12_init 42 (.newarray .int) 2 44 := by decide +kernel
theorem dX12_init_44 : vm_at cX12_init 44 (.putfield 26) 3 47 := by decide +kernel
theorem dX12_init_47 : vm_at cX12_init 47 (.aload_n 0) 1 48 ∧ ((0 : Fin 4) : Nat) = 0 := by decide +kernel
theorem dX12_init_48 : vm_at cX12_init 48 (.bipush 80) 2 50 ∧ (Int8.ofInt (80)).toInt32 = (80 : Int32) := by decide +kernel
theorem dX12_init_50 : vm_at cX12_init 50 (.newarray .int) 2 52 := by decide +kernel
theorem dX12_init_52 : vm_at cX12_init 52 (.putfield 29) 3 55 := by decide +kernel
theorem dX12_init_55 : vm_at cX12_init 55 (.aload_n 0) 1 56 ∧ ((0 : Fin 4) : Nat) = 0 := by decide +kernel
theorem dX12_init_56 : vm_at cX12_init 56 (.bipush 18) 2 58 ∧ (Int8.ofInt (18)).toInt32 = (18 : Int32) := by decide +kernel
theorem dX12_init_58 : vm_at cX12_init 58 (.newarray .int) 2 60 := by decide +kernel
theorem dX12_init_60 : vm_at cX12_init 60 (.putfield 32) 3 63 := by decide +kernel
theorem dX12_init_63 : vm_at cX12_init 63 (.aload_n 0) 1 64 ∧ ((0 : Fin 4) : Nat) = 0 := by decide +kernel
theorem dX12_init_64 : vm_at cX12_init 64 (.iconst 2) 1 65 ∧ Int32.ofInt (2) = (2 : Int32) := by decide +kernel
theorem dX12_init_65 : vm_at cX12_init 65 (.newarray .long) 2 67 := by decide +kernel
theorem dX12_init_67 : vm_at cX12_init 67 (.putfield 35) 3 70 := by decide +kernel
theorem dX12_init_70 : vm_at cX12_init 70 (.aload_n 0) 1 71 ∧ ((0 : Fin 4) : Nat) = 0 := by decide +kernel
theorem dX12_init_71 : vm_at cX12_init 71 (.iconst 2) 1 72 ∧ Int32.ofInt (2) = (2 : Int32) := by decide +kernel
theorem dX12_init_72 : vm_at cX12_init 72 (.newarray .boolean) 2 74 := by decide +kernel
theorem dX12_init_74 : vm_at cX12_init 74 (.putfield 39) 3 77 := by decide +kernel
theorem dX12_init_77 : vm_at cX12_init 77 (.aload_n 0) 1 78 ∧ ((0 : Fin 4) : Nat) = 0 := by decide +kernel
theorem dX12_init_78 : vm_at cX12_init 78 (.ldc 43) 2 80 := by decide +kernel
theorem dX12_init_80 : vm_at cX12_init 80 (.newarray .int) 2 82 := by decide +kernel
theorem dX12_init_82 : vm_at cX12_init 82 (.putfield 44) 3 85 := by decide +kernel
theorem dX12_init_85 : vm_at cX12_init 85 (.aload_n 0) 1 86 ∧ ((0 : Fin 4) : Nat) = 0 := by decide +kernel
theorem dX12_init_86 : vm_at cX12_init 86 (.ldc 43) 2 88 := by decide +kernel
theorem dX12_init_88 : vm_at cX12_init 88 (.newarray .int) 2 90 := by decide +kernel
theorem dX12_init_90 : vm_at cX12_init 90 (.putfield 47) 3 93 := by decide +kernel
theorem dX12_init_93 : vm_at cX12_init 93 (.aload_n 0) 1 94 ∧ ((0 : Fin 4) : Nat) = 0 := by decide +kernel
theorem dX12_init_94 : vm_at cX12_init 94 (.ldc 43) 2 96 := by decide +kernel
theorem dX12_init_96 : vm_at cX12_init 96 (.newarray .int) 2 98 := by decide +kernel
theorem dX12_init_98 : vm_at cX12_init 98 (.putfield 50) 3 101 := by decide +kernel
theorem dX12_init_101 : vm_at cX12_init 101 (.aload_n 0) 1 102 ∧ ((0 : Fin 4) : Nat) = 0 := by decide +kernel
theorem dX12_init_102 : vm_at cX12_init 102 (.ldc 43) 2 104 := by decide +kernel
theorem dX12_init_104 : vm_at cX12_init 104 (.newarray .int) 2 106 := by decide +kernel
theorem dX12_init_106 : vm_at cX12_init 106 (.putfield 53) 3 109 := by decide +kernel
theorem dX12_init_109 : vm_at cX12_init 109 (.aload_n 0) 1 110 ∧ ((0 : Fin 4) : Nat) = 0 := by decide +kernel
theorem dX12_init_110 : vm_at cX12_init 110 (.bipush 100) 2 112 ∧ (Int8.ofInt (100)).toInt32 = (100 : Int32) := by decide +kernel
theorem dX12_init_112 : vm_at cX12_init 112 (.newarray .int) 2 114 := by decide +kernel
theorem dX12_init_114 : vm_at cX12_init 114 (.putfield 56) 3 117 := by decide +kernel
theorem dX12_init_117 : vm_at cX12_init 117 (.aload_n 0) 1 118 ∧ ((0 : Fin 4) : Nat) = 0 := by decide +kernel
theorem dX12_init_118 : vm_at cX12_init 118 (.bipush 100) 2 120 ∧ (Int8.ofInt (100)).toInt32 = (100 : Int32) := by decide +kernel
theorem dX12_init_120 : vm_at cX12_init 120 (.newarray .int) 2 122 := by decide +kernel
theorem dX12_init_122 : vm_at cX12_init 122 (.putfield 59) 3 125 := by decide +kernel
theorem dX12_init_125 : vm_at cX12_init 125 (.aload_n 0) 1 126 ∧ ((0 : Fin 4) : Nat) = 0 := by decide +kernel
theorem dX12_init_126 : vm_at cX12_init 126 (.bipush 100) 2 128 ∧ (Int8.ofInt (100)).toInt32 = (100 : Int32) := by decide +kernel
theorem dX12_init_128 : vm_at cX12_init 128 (.newarray .int) 2 130 := by decide +kernel
theorem dX12_init_130 : vm_at cX12_init 130 (.putfield 62) 3 133 := by decide +kernel
theorem dX12_init_133 : vm_at cX12_init 133 (.return_) 1 134 := by decide +kernel
theorem dX11_init_0 : vm_at cX11_init 0 (.aload_n 0) 1 1 ∧ ((0 : Fin 4) : Nat) = 0 := by decide +kernel
theorem dX11_init_1 : vm_at cX11_init 1 (.invokespecial 3) 3 4 := by decide +kernel
theorem dX11_init_4 : vm_at cX11_init 4 (.aload_n 0) 1 5 ∧ ((0 : Fin 4) : Nat) = 0 := by decide +kernel
theorem dX11_init_5 : vm_at cX11_init 5 (.new 9) 3 8 := by decide +kernel
theorem dX11_init_8 : vm_at cX11_init 8 (.dup) 1 9 := by decide +kernel
theorem dX11_init_9 : vm_at cX11_init 9 (.invokespecial 11) 3 12 := by decide +kernel
theorem dX11_init_12 : vm_at cX11_init 12 (.putfield 12) 3 15 := by decide +kernel
theorem dX11_init_15 : vm_at cX11_init 15 (.aload_n 0) 1 16 ∧ ((0 : Fin 4) : Nat) = 0 := by decide +kernel
theorem dX11_init_16 : vm_at cX11_init 16 (.new 16) 3 19 := by decide +kernel
theorem dX11_init_19 : vm_at cX11_init 19 (.dup) 1 20 := by decide +kernel
theorem dX11_init_20 : vm_at cX11_init 20 (.invokespecial 18) 3 23 := by decide +kernel
theorem dX11_init_23 : vm_at cX11_init 23 (.putfield 19) 3 26 := by decide +kernel
theorem dX11_init_26 : vm_at cX11_init 26 (.aload_n 0) 1 27 ∧ ((0 : Fin 4) : Nat) = 0 := by decide +kernel
theorem dX11_init_27 : vm_at cX11_init 27 (.new 16) 3 30 := by decide +kernel
theorem dX11_init_30 : vm_at cX11_init 30 (.dup) 1 31 := by decide +kernel
theorem dX11_init_31 : vm_at cX11_init 31 (.invokespecial 18) 3 34 := by decide +kernel
theorem dX11_init_34 : vm_at cX11_init 34 (.putfield 23) 3 37 := by decide +kernel
theorem dX11_init_37 : vm_at cX11_init 37 (.aload_n 0) 1 38 ∧ ((0 : Fin 4) : Nat) = 0 := by decide +kernel
theorem dX11_init_38 : vm_at cX11_init 38 (.new 26) 3 41 := by decide +kernel
theorem dX11_init_41 : vm_at cX11_init 41 (.dup) 1 42 := by decide +kernel
theorem dX11_init_42 : vm_at cX11_init 42 (.invokespecial 28) 3 45 := by decide +kernel
theorem dX11_init_45 : vm_at cX11_init 45 (.putfield 29) 3 48 := by decide +kernel
theorem dX11_init_48 : vm_at cX11_init 48 (.aload_n 0) 1 49 ∧ ((0 : Fin 4) : Nat) = 0 := by decide +kernel
theorem dX11_init_49 : vm_at cX11_init 49 (.new 26) 3 52 := by decide +kernel
theorem dX11_init_52 : vm_at cX11_init 52 (.dup) 1 53 := by decide +kernel
theorem dX11_init_53 : vm_at cX11_init 53 (.invokespecial 28) 3 56 := by decide +kernel
theorem dX11_init_56 : vm_at cX11_init 56 (.putfield 33) 3 59 := by decide +kernel
theorem dX11_init_59 : vm_at cX11_init 59 (.aload_n 0) 1 60 ∧ ((0 : Fin 4) : Nat) = 0 := by decide +kernel
theorem dX11_init_60 : vm_at cX11_init 60 (.new 26) 3 63 := by decide +kernel
theorem dX11_init_63 : vm_at cX11_init 63 (.dup) 1 64 := by decide +kernel
theorem dX11_init_64 : vm_at cX11_init 64 (.invokespecial 28) 3 67 := by decide +kernel
theorem dX11_init_67 : vm_at cX11_init 67 (.putfield 36) 3 70 := by decide +kernel
theorem dX11_init_70 : vm_at cX11_init 70 (.aload_n 0) 1 71 ∧ ((0 : Fin 4) : Nat) = 0 := by decide +kernel
theorem dX11_init_71 : vm_at cX11_init 71 (.new 39) 3 74 := by decide +kernel
theorem dX11_init_74 : vm_at cX11_init 74 (.dup) 1 75 := by decide +kernel
theorem dX11_init_75 : vm_at cX11_init 75 (.invokespecial 41) 3 78 := by decide +kernel
theorem dX11_init_78 : vm_at cX11_init 78 (.putfield 42) 3 81 := by decide +kernel
theorem dX11_init_81 : vm_at cX11_init 81 (.aload_n 0) 1 82 ∧ ((0 : Fin 4) : Nat) = 0 := by decide +kernel
theorem dX11_init_82 : vm_at cX11_init 82 (.new 46) 3 85 := by decide +kernel
theorem dX11_init_85 : vm_at cX11_init 85 (.dup) 1 86 := by decide +kernel
theorem dX11_init_86 : vm_at cX11_init 86 (.invokespecial 48) 3 89 := by decide +kernel
theorem dX11_init_89 : vm_at cX11_init 89 (.putfield 49) 3 92 := by decide +kernel
theorem dX11_init_92 : vm_at cX11_init 92 (.aload_n 0) 1 93 ∧ ((0 : Fin 4) : Nat) = 0 := by decide +kernel
theorem dX11_init_93 : vm_at cX11_init 93 (.new 53) 3 96 := by decide +kernel
theorem dX11_init_96 : vm_at cX11_init 96 (.dup) 1 97 := by decide +kernel
theorem dX11_init_97 : vm_at cX11_init 97 (.aload_n 0) 1 98 ∧ ((0 : Fin 4) : Nat) = 0 := by decide +kernel
theorem dX11_init_98 : vm_at cX11_init 98 (.getfield 49) 3 101 := by decide +kernel
theorem dX11_init_101 : vm_at cX11_init 101 (.invokespecial 55) 3 104 := by decide +kernel
theorem dX11_init_104 : vm_at cX11_init 104 (.putfield 58) 3 107 := by decide +kernel
theorem dX11_init_107 : vm_at cX11_init 107 (.aload_n 0) 1 108 ∧ ((0 : Fin 4) : Nat) = 0 := by decide +kernel
theorem dX11_init_108 : vm_at cX11_init 108 (.new 62) 3 111 := by decide +kernel
theorem dX11_init_111 : vm_at cX11_init 111 (.dup) 1 112 := by decide +kernel
theorem dX11_init_112 : vm_at cX11_init 112 (.aload_n 0) 1 113 ∧ ((0 : Fin 4) : Nat) = 0 := by decide +kernel
theorem dX11_init_113 : vm_at cX11_init 113 (.getfield 49) 3 116 := by decide +kernel
theorem dX11_init_116 : vm_at cX11_init 116 (.invokespecial 64) 3 119 := by decide +kernel
theorem dX11_init_119 : vm_at cX11_init 119 (.putfield 65) 3 122 := by decide +kernel
theorem dX11_init_122 : vm_at cX11_init 122 (.aload_n 0) 1 123 ∧ ((0 : Fin 4) : Nat) = 0 := by decide +kernel
theorem dX11_init_123 : vm_at cX11_init 123 (.new 69) 3 126 := by decide +kernel
theorem dX11_init_126 : vm_at cX11_init 126 (.dup) 1 127 := by decide +kernel
theorem dX11_init_127 : vm_at cX11_init 127 (.aload_n 0) 1 128 ∧ ((0 : Fin 4) : Nat) = 0 := by decide +kernel
theorem dX11_init_128 : vm_at cX11_init 128 (.getfield 49) 3 131 := by decide +kernel
theorem dX11_init_131 : vm_at cX11_init 131 (.invokespecial 71) 3 134 := by decide +kernel
theorem dX11_init_134 : vm_at cX11_init 134 (.putfield 72) 3 137 := by decide +kernel
theorem dX11_init_137 : vm_at cX11_init 137 (.aload_n 0) 1 138 ∧ ((0 : Fin 4) : Nat) = 0 := by decide +kernel
theorem dX11_init_138 : vm_at cX11_init 138 (.new 76) 3 141 := by decide +kernel
theorem dX11_init_141 : vm_at cX11_init 141 (.dup) 1 142 := by decide +kernel
theorem dX11_init_142 : vm_at cX11_init 142 (.aload_n 0) 1 143 ∧ ((0 : Fin 4) : Nat) = 0 := by decide +kernel
theorem dX11_init_143 : vm_at cX11_init 143 (.getfield 49) 3 146 := by decide +kernel
theorem dX11_init_146 : vm_at cX11_init 146 (.invokespecial 78) 3 149 := by decide +kernel
theorem dX11_init_149 : vm_at cX11_init 149 (.putfield 79) 3 152 := by decide +kernel
theorem dX11_init_152 : vm_at cX11_init 152 (.aload_n 0) 1 153 ∧ ((0 : Fin 4) : Nat) = 0 := by decide +kernel
theorem dX11_init_153 : vm_at cX11_init 153 (.new 83) 3 156 := by decide +kernel
theorem dX11_init_156 : vm_at cX11_init 156 (.dup) 1 157 := by decide +kernel
theorem dX11_init_157 : vm_at cX11_init 157 (.invokespecial 85) 3 160 := by decide +kernel
theorem dX11_init_160 : vm_at cX11_init 160 (.putfield 86) 3 163 := by decide +kernel
theorem dX11_init_163 : vm_at cX11_init 163 (.aload_n 0) 1 164 ∧ ((0 : Fin 4) : Nat) = 0 := by decide +kernel
theorem dX11_init_164 : vm_at cX11_init 164 (.new 90) 3 167 := by decide +kernel
theorem dX11_init_167 : vm_at cX11_init 167 (.dup) 1 168 := by decide +kernel
theorem dX11_init_168 : vm_at cX11_init 168 (.invokespecial 92) 3 171 := by decide +kernel
theorem dX11_init_171 : vm_at cX11_init 171 (.putfield 93) 3 174 := by decide +kernel
theorem dX11_init_174 : vm_at cX11_init 174 (.return_) 1 175 := by decide +kernel
theorem mo_i : Cond.instanceMethod Lib.objectInit ∈ lw_tbl := List.mem_of_getElem? (i := 91) (by decide +kernel)
theorem mo_c : Cond.code Lib.objectInit ⟨#[0xb1]⟩ 1 none ∈ lw_tbl := List.mem_of_getElem? (i := 92) (by decide +kernel)
theorem ma_I : Cond.arrayClass .int ∈ lw_tbl := List.mem_of_getElem? (i := 127) (by decide +kernel)
theorem ma_J : Cond.arrayClass .long ∈ lw_tbl := List.mem_of_getElem? (i := 274) (by decide +kernel)
theorem ma_Z : Cond.arrayClass .boolean ∈ lw_tbl := List.mem_of_getElem? (i := 1128) (by decide +kernel)
theorem ni_X9_init : nm_MI RX11 11 mX9_init 0 := ⟨Or.inr ⟨"FewKeys", List.mem_of_getElem? (i := 95) (by decide +kernel)⟩, ⟨List.mem_of_getElem? (i := 66) (by decide +kernel), List.mem_of_getElem? (i := 97) (by decide +kernel), by decide +kernel, by decide⟩, List.mem_of_getElem? (i := 96) (by decide +kernel), rfl, rfl⟩
theorem ni_X6_init : nm_MI RX11 18 mX6_init 0 := ⟨Or.inr ⟨"FewKeys", List.mem_of_getElem? (i := 130) (by decide +kernel)⟩, ⟨List.mem_of_getElem? (i := 67) (by decide +kernel), List.mem_of_getElem? (i := 132) (by decide +kernel), by decide +kernel, by decide⟩, List.mem_of_getElem? (i := 131) (by decide +kernel), rfl, rfl⟩
theorem ni_X5_init : nm_MI RX11 28 mX5_init 0 := ⟨Or.inr ⟨"FewKeys", List.mem_of_getElem? (i := 187) (by decide +kernel)⟩, ⟨List.mem_of_getElem? (i := 68) (by decide +kernel), List.mem_of_getElem? (i := 189) (by decide +kernel), by decide +kernel, by decide⟩, List.mem_of_getElem? (i := 188) (by decide +kernel), rfl, rfl⟩
theorem ni_X0_init : nm_MI RX11 41 mX0_init 0 := ⟨Or.inr ⟨"FewKeys", List.mem_of_getElem? (i := 224) (by decide +kernel)⟩, ⟨List.mem_of_getElem? (i := 69) (by decide +kernel), List.mem_of_getElem? (i := 226) (by decide +kernel), by decide +kernel, by decide⟩, List.mem_of_getElem? (i := 225) (by decide +kernel), rfl, rfl⟩
theorem ni_X7_init : nm_MI RX11 48 mX7_init 0 := ⟨Or.inr ⟨"FewKeys", List.mem_of_getElem? (i := 241) (by decide +kernel)⟩, ⟨List.mem_of_getElem? (i := 70) (by decide +kernel), List.mem_of_getElem? (i := 243) (by decide +kernel), by decide +kernel, by decide⟩, List.mem_of_getElem? (i := 242) (by decide +kernel), rfl, rfl⟩
theorem ni_X8_init : nm_MI RX11 55 mX8_init 1 := ⟨Or.inl (List.mem_of_getElem? (i := 277) (by decide +kernel)), ⟨List.mem_of_getElem? (i := 71) (by decide +kernel), List.mem_of_getElem? (i := 279) (by decide +kernel), by decide +kernel, by decide⟩, List.mem_of_getElem? (i := 278) (by decide +kernel), rfl, rfl⟩
theorem ni_X2_init : nm_MI RX11 64 mX2_init 1 := ⟨Or.inl (List.mem_of_getElem? (i := 317) (by decide +kernel)), ⟨List.mem_of_getElem? (i := 72) (by decide +kernel), List.mem_of_getElem? (i := 319) (by decide +kernel), by decide +kernel, by decide⟩, List.mem_of_getElem? (i := 318) (by decide +kernel), rfl, rfl⟩
theorem ni_X1_init : nm_MI RX11 71 mX1_init 1 := ⟨Or.inl (List.mem_of_getElem? (i := 344) (by decide +kernel)), ⟨List.mem_of_getElem? (i := 73) (by decide +kernel), List.mem_of_getElem? (i := 346) (by decide +kernel), by decide +kernel, by decide⟩, List.mem_of_getElem? (i := 345) (by decide +kernel), rfl, rfl⟩
theorem ni_X4_init : nm_MI RX11 78 mX4_init 1 := ⟨Or.inl (List.mem_of_getElem? (i := 372) (by decide +kernel)), ⟨List.mem_of_getElem? (i := 74) (by decide +kernel), List.mem_of_getElem? (i := 374) (by decide +kernel), by decide +kernel, by decide⟩, List.mem_of_getElem? (i := 373) (by decide +kernel), rfl, rfl⟩
theorem ni_X10_init : nm_MI RX11 85 mX10_init 0 := ⟨Or.inr ⟨"FewKeys", List.mem_of_getElem? (i := 390) (by decide +kernel)⟩, ⟨List.mem_of_getElem? (i := 75) (by decide +kernel), List.mem_of_getElem? (i := 392) (by decide +kernel), by decide +kernel, by decide⟩, List.mem_of_getElem? (i := 391) (by decide +kernel), rfl, rfl⟩
theorem ni_X3_init : nm_MI RX11 92 mX3_init 0 := ⟨Or.inr ⟨"FewKeys", List.mem_of_getElem? (i := 409) (by decide +kernel)⟩, ⟨List.mem_of_getElem? (i := 76) (by decide +kernel), List.mem_of_getElem? (i := 411) (by decide +kernel), by decide +kernel, by decide⟩, List.mem_of_getElem? (i := 410) (by decide +kernel), rfl, rfl⟩
theorem ni_X11_init : nm_MI RL 9 mX11_init 0 := ⟨Or.inl (List.mem_of_getElem? (i := 87) (by decide +kernel)), ⟨List.mem_of_getElem? (i := 65) (by decide +kernel), List.mem_of_getElem? (i := 89) (by decide +kernel), by decide +kernel, by decide⟩, List.mem_of_getElem? (i := 88) (by decide +kernel), rfl, rfl⟩
theorem ni_X12_init : nm_MI RL 12 mX12_init 0 := ⟨Or.inl (List.mem_of_getElem? (i := 999) (by decide +kernel)), ⟨List.mem_of_getElem? (i := 77) (by decide +kernel), List.mem_of_getElem? (i := 1001) (by decide +kernel), by decide +kernel, by decide⟩, List.mem_of_getElem? (i := 1000) (by decide +kernel), rfl, rfl⟩
section MKS
variable {l : Launch} {G : va_G} {tc : ClassId × ClassId × ClassId} {Q : va_W → Prop}
theorem mk_X0_init {pre : va_W} {a : Nat} (hQ : ∀ q1 q2 : Nat, Q (pre ++ [(a, .inr (0, [.ref q1, .ref q2, .int 0])), (q1, .inl (tc.1, 40, .inl (fun _ => 0))), (q2, .inl (tc.1, 40, .inl (fun _ => 0)))])) : NOk l G tc 1 2 80 mX0_init [.ref a] (pre ++ [(a, .inr (0, [.null, .null, .int 0]))]) Q := by
  refine n_enter rfl rfl (Nat.le_of_ble_eq_true rfl) ?_
  refine n_aload dX0_init_0 rfl ?_
  refine n_obj dX0_init_1 (List.mem_of_getElem? (i := 227) (by decide +kernel)) mo_i mo_c (Nat.le_refl _) (Nat.le_of_ble_eq_true rfl) ?_
  refine n_aload dX0_init_4 rfl ?_
  refine n_bipush dX0_init_5 ?_
  refine n_newI dX0_init_7 ma_I (show (40 : Int32) = nI 40 from rfl) (by decide) (Nat.le_of_ble_eq_true rfl) (Nat.le_of_ble_eq_true rfl) (fun q1 => ?_)
  rw [n_app]
  refine n_put (pre := pre) (j := 0) dX0_init_9 vm_cl0 (by decide) (List.mem_of_getElem? (i := 228) (by decide +kernel)) rfl rfl rfl rfl (Nat.le_of_ble_eq_true rfl) ?_
  refine n_aload dX0_init_12 rfl ?_
  refine n_bipush dX0_init_13 ?_
  refine n_newI dX0_init_15 ma_I (show (40 : Int32) = nI 40 from rfl) (by decide) (Nat.le_of_ble_eq_true rfl) (Nat.le_of_ble_eq_true rfl) (fun q2 => ?_)
  rw [n_app]
  refine n_put (pre := pre) (j := 1) dX0_init_17 vm_cl0 (by decide) (List.mem_of_getElem? (i := 229) (by decide +kernel)) rfl rfl rfl rfl (Nat.le_of_ble_eq_true rfl) ?_
  refine n_aload dX0_init_20 rfl ?_
  refine n_iconst dX0_init_21 ?_
  refine n_put (pre := pre) (j := 2) dX0_init_22 vm_cl0 (by decide) (List.mem_of_getElem? (i := 230) (by decide +kernel)) rfl rfl rfl rfl (Nat.le_of_ble_eq_true rfl) ?_
  refine n_return dX0_init_25 rfl (Nat.le_of_ble_eq_true rfl) (Nat.le_of_ble_eq_true rfl) ?_
  exact hQ q1 q2
theorem mk_X1_init {pre : va_W} {a r : Nat} (hQ : ∀ q1 q2 q3 q4 : Nat, Q (pre ++ [(a, .inr (1, [.ref r, .ref q1, .ref q2, .int 0, .ref q3, .ref q4, .int 0])), (q1, .inl (tc.1, 602, .inl (fun _ => 0))), (q2, .inl (tc.1, 602, .inl (fun _ => 0))), (q3, .inl (tc.1, 602, .inl (fun _ => 0))), (q4, .inl (tc.1, 602, .inl (fun _ => 0)))])) : NOk l G tc 1 4 2408 mX1_init [.ref a, .ref r] (pre ++ [(a, .inr (1, [.null, .null, .null, .int 0, .null, .null, .int 0]))]) Q := by
  refine n_enter rfl rfl (Nat.le_of_ble_eq_true rfl) ?_
  refine n_aload dX1_init_0 rfl ?_
  refine n_obj dX1_init_1 (List.mem_of_getElem? (i := 347) (by decide +kernel)) mo_i mo_c (Nat.le_refl _) (Nat.le_of_ble_eq_true rfl) ?_
  refine n_aload dX1_init_4 rfl ?_
  refine n_sipush dX1_init_5 ?_
  refine n_newI dX1_init_8 ma_I (show (602 : Int32) = nI 602 from rfl) (by decide) (Nat.le_of_ble_eq_true rfl) (Nat.le_of_ble_eq_true rfl) (fun q1 => ?_)
  rw [n_app]
  refine n_put (pre := pre) (j := 1) dX1_init_10 vm_cl1 (by decide) (List.mem_of_getElem? (i := 349) (by decide +kernel)) rfl rfl rfl rfl (Nat.le_of_ble_eq_true rfl) ?_
  refine n_aload dX1_init_13 rfl ?_
  refine n_sipush dX1_init_14 ?_
  refine n_newI dX1_init_17 ma_I (show (602 : Int32) = nI 602 from rfl) (by decide) (Nat.le_of_ble_eq_true rfl) (Nat.le_of_ble_eq_true rfl) (fun q2 => ?_)
  rw [n_app]
  refine n_put (pre := pre) (j := 2) dX1_init_19 vm_cl1 (by decide) (List.mem_of_getElem? (i := 350) (by decide +kernel)) rfl rfl rfl rfl (Nat.le_of_ble_eq_true rfl) ?_
  refine n_aload dX1_init_22 rfl ?_
  refine n_iconst dX1_init_23 ?_
  refine n_put (pre := pre) (j := 3) dX1_init_24 vm_cl1 (by decide) (List.mem_of_getElem? (i := 351) (by decide +kernel)) rfl rfl rfl rfl (Nat.le_of_ble_eq_true rfl) ?_
  refine n_aload dX1_init_27 rfl ?_
  refine n_sipush dX1_init_28 ?_
  refine n_newI dX1_init_31 ma_I (show (602 : Int32) = nI 602 from rfl) (by decide) (Nat.le_of_ble_eq_true rfl) (Nat.le_of_ble_eq_true rfl) (fun q3 => ?_)
  rw [n_app]
  refine n_put (pre := pre) (j := 4) dX1_init_33 vm_cl1 (by decide) (List.mem_of_getElem? (i := 352) (by decide +kernel)) rfl rfl rfl rfl (Nat.le_of_ble_eq_true rfl) ?_
  refine n_aload dX1_init_36 rfl ?_
  refine n_sipush dX1_init_37 ?_
  refine n_newI dX1_init_40 ma_I (show (602 : Int32) = nI 602 from rfl) (by decide) (Nat.le_of_ble_eq_true rfl) (Nat.le_of_ble_eq_true rfl) (fun q4 => ?_)
  rw [n_app]
  refine n_put (pre := pre) (j := 5) dX1_init_42 vm_cl1 (by decide) (List.mem_of_getElem? (i := 353) (by decide +kernel)) rfl rfl rfl rfl (Nat.le_of_ble_eq_true rfl) ?_
  refine n_aload dX1_init_45 rfl ?_
  refine n_iconst dX1_init_46 ?_
  refine n_put (pre := pre) (j := 6) dX1_init_47 vm_cl1 (by decide) (List.mem_of_getElem? (i := 354) (by decide +kernel)) rfl rfl rfl rfl (Nat.le_of_ble_eq_true rfl) ?_
  refine n_aload dX1_init_50 rfl ?_
  refine n_aload dX1_init_51 rfl ?_
  refine n_put (pre := pre) (j := 0) dX1_init_52 vm_cl1 (by decide) (List.mem_of_getElem? (i := 348) (by decide +kernel)) rfl rfl rfl rfl (Nat.le_of_ble_eq_true rfl) ?_
  refine n_return dX1_init_55 rfl (Nat.le_of_ble_eq_true rfl) (Nat.le_of_ble_eq_true rfl) ?_
  exact hQ q1 q2 q3 q4
theorem mk_X2_init {pre : va_W} {a r : Nat} (hQ : ∀ q1 q2 : Nat, Q (pre ++ [(a, .inr (2, [.ref r, .ref q1, .ref q2, .int 0, .int 0, .int 0])), (q1, .inl (tc.1, 100, .inl (fun _ => 0))), (q2, .inl (tc.1, 8, .inl (fun _ => 0)))])) : NOk l G tc 1 2 108 mX2_init [.ref a, .ref r] (pre ++ [(a, .inr (2, [.null, .null, .null, .int 0, .int 0, .int 0]))]) Q := by
  refine n_enter rfl rfl (Nat.le_of_ble_eq_true rfl) ?_
  refine n_aload dX2_init_0 rfl ?_
  refine n_obj dX2_init_1 (List.mem_of_getElem? (i := 320) (by decide +kernel)) mo_i mo_c (Nat.le_refl _) (Nat.le_of_ble_eq_true rfl) ?_
  refine n_aload dX2_init_4 rfl ?_
  refine n_bipush dX2_init_5 ?_
  refine n_newI dX2_init_7 ma_I (show (100 : Int32) = nI 100 from rfl) (by decide) (Nat.le_of_ble_eq_true rfl) (Nat.le_of_ble_eq_true rfl) (fun q1 => ?_)
  rw [n_app]
  refine n_put (pre := pre) (j := 1) dX2_init_9 vm_cl2 (by decide) (List.mem_of_getElem? (i := 322) (by decide +kernel)) rfl rfl rfl rfl (Nat.le_of_ble_eq_true rfl) ?_
  refine n_aload dX2_init_12 rfl ?_
  refine n_bipush dX2_init_13 ?_
  refine n_newI dX2_init_15 ma_I (show (8 : Int32) = nI 8 from rfl) (by decide) (Nat.le_of_ble_eq_true rfl) (Nat.le_of_ble_eq_true rfl) (fun q2 => ?_)
  rw [n_app]
  refine n_put (pre := pre) (j := 2) dX2_init_17 vm_cl2 (by decide) (List.mem_of_getElem? (i := 324) (by decide +kernel)) rfl rfl rfl rfl (Nat.le_of_ble_eq_true rfl) ?_
  refine n_aload dX2_init_20 rfl ?_
  refine n_iconst dX2_init_21 ?_
  refine n_put (pre := pre) (j := 3) dX2_init_22 vm_cl2 (by decide) (List.mem_of_getElem? (i := 325) (by decide +kernel)) rfl rfl rfl rfl (Nat.le_of_ble_eq_true rfl) ?_
  refine n_aload dX2_init_25 rfl ?_
  refine n_iconst dX2_init_26 ?_
  refine n_put (pre := pre) (j := 4) dX2_init_27 vm_cl2 (by decide) (List.mem_of_getElem? (i := 326) (by decide +kernel)) rfl rfl rfl rfl (Nat.le_of_ble_eq_true rfl) ?_
  refine n_aload dX2_init_30 rfl ?_
  refine n_iconst dX2_init_31 ?_
  refine n_put (pre := pre) (j := 5) dX2_init_32 vm_cl2 (by decide) (List.mem_of_getElem? (i := 327) (by decide +kernel)) rfl rfl rfl rfl (Nat.le_of_ble_eq_true rfl) ?_
  refine n_aload dX2_init_35 rfl ?_
  refine n_aload dX2_init_36 rfl ?_
  refine n_put (pre := pre) (j := 0) dX2_init_37 vm_cl2 (by decide) (List.mem_of_getElem? (i := 321) (by decide +kernel)) rfl rfl rfl rfl (Nat.le_of_ble_eq_true rfl) ?_
  refine n_return dX2_init_40 rfl (Nat.le_of_ble_eq_true rfl) (Nat.le_of_ble_eq_true rfl) ?_
  exact hQ q1 q2
theorem mk_X3_init {pre : va_W} {a : Nat} (hQ : Q (pre ++ [(a, .inr (3, [.int 0, .int (-1)]))])) : NOk l G tc 1 0 0 mX3_init [.ref a] (pre ++ [(a, .inr (3, [.int 0, .int 0]))]) Q := by
  refine n_enter rfl rfl (Nat.le_of_ble_eq_true rfl) ?_
  refine n_aload dX3_init_0 rfl ?_
  refine n_obj dX3_init_1 (List.mem_of_getElem? (i := 412) (by decide +kernel)) mo_i mo_c (Nat.le_refl _) (Nat.le_of_ble_eq_true rfl) ?_
  refine n_aload dX3_init_4 rfl ?_
  refine n_iconst dX3_init_5 ?_
  refine n_put (pre := pre) (j := 0) dX3_init_6 vm_cl3 (by decide) (List.mem_of_getElem? (i := 413) (by decide +kernel)) rfl rfl rfl rfl (Nat.le_of_ble_eq_true rfl) ?_
  refine n_aload dX3_init_9 rfl ?_
  refine n_iconst dX3_init_10 ?_
  refine n_put (pre := pre) (j := 1) dX3_init_11 vm_cl3 (by decide) (List.mem_of_getElem? (i := 415) (by decide +kernel)) rfl rfl rfl rfl (Nat.le_of_ble_eq_true rfl) ?_
  refine n_return dX3_init_14 rfl (Nat.le_of_ble_eq_true rfl) (Nat.le_of_ble_eq_true rfl) ?_
  exact hQ
theorem mk_X4_init {pre : va_W} {a r : Nat} (hQ : Q (pre ++ [(a, .inr (4, [.ref r, .int 0, .int 0]))])) : NOk l G tc 1 0 0 mX4_init [.ref a, .ref r] (pre ++ [(a, .inr (4, [.null, .int 0, .int 0]))]) Q := by
  refine n_enter rfl rfl (Nat.le_of_ble_eq_true rfl) ?_
  refine n_aload dX4_init_0 rfl ?_
  refine n_obj dX4_init_1 (List.mem_of_getElem? (i := 375) (by decide +kernel)) mo_i mo_c (Nat.le_refl _) (Nat.le_of_ble_eq_true rfl) ?_
  refine n_aload dX4_init_4 rfl ?_
  refine n_iconst dX4_init_5 ?_
  refine n_put (pre := pre) (j := 1) dX4_init_6 vm_cl4 (by decide) (List.mem_of_getElem? (i := 377) (by decide +kernel)) rfl rfl rfl rfl (Nat.le_of_ble_eq_true rfl) ?_
  refine n_aload dX4_init_9 rfl ?_
  refine n_iconst dX4_init_10 ?_
  refine n_put (pre := pre) (j := 2) dX4_init_11 vm_cl4 (by decide) (List.mem_of_getElem? (i := 379) (by decide +kernel)) rfl rfl rfl rfl (Nat.le_of_ble_eq_true rfl) ?_
  refine n_aload dX4_init_14 rfl ?_
  refine n_aload dX4_init_15 rfl ?_
  refine n_put (pre := pre) (j := 0) dX4_init_16 vm_cl4 (by decide) (List.mem_of_getElem? (i := 376) (by decide +kernel)) rfl rfl rfl rfl (Nat.le_of_ble_eq_true rfl) ?_
  refine n_return dX4_init_19 rfl (Nat.le_of_ble_eq_true rfl) (Nat.le_of_ble_eq_true rfl) ?_
  exact hQ
theorem mk_X5_init {pre : va_W} {a : Nat} (hQ : ∀ q1 : Nat, Q (pre ++ [(a, .inr (5, [.int 0, .int 0, .int 0, .int 0, .int 0, .ref q1])), (q1, .inl (tc.1, 6, .inl (fun _ => 0)))])) : NOk l G tc 1 1 6 mX5_init [.ref a] (pre ++ [(a, .inr (5, [.int 0, .int 0, .int 0, .int 0, .int 0, .null]))]) Q := by
  refine n_enter rfl rfl (Nat.le_of_ble_eq_true rfl) ?_
  refine n_aload dX5_init_0 rfl ?_
  refine n_obj dX5_init_1 (List.mem_of_getElem? (i := 190) (by decide +kernel)) mo_i mo_c (Nat.le_refl _) (Nat.le_of_ble_eq_true rfl) ?_
  refine n_aload dX5_init_4 rfl ?_
  refine n_iconst dX5_init_5 ?_
  refine n_put (pre := pre) (j := 0) dX5_init_6 vm_cl5 (by decide) (List.mem_of_getElem? (i := 191) (by decide +kernel)) rfl rfl rfl rfl (Nat.le_of_ble_eq_true rfl) ?_
  refine n_aload dX5_init_9 rfl ?_
  refine n_iconst dX5_init_10 ?_
  refine n_put (pre := pre) (j := 1) dX5_init_11 vm_cl5 (by decide) (List.mem_of_getElem? (i := 195) (by decide +kernel)) rfl rfl rfl rfl (Nat.le_of_ble_eq_true rfl) ?_
  refine n_aload dX5_init_14 rfl ?_
  refine n_iconst dX5_init_15 ?_
  refine n_put (pre := pre) (j := 2) dX5_init_16 vm_cl5 (by decide) (List.mem_of_getElem? (i := 197) (by decide +kernel)) rfl rfl rfl rfl (Nat.le_of_ble_eq_true rfl) ?_
  refine n_aload dX5_init_19 rfl ?_
  refine n_iconst dX5_init_20 ?_
  refine n_put (pre := pre) (j := 3) dX5_init_21 vm_cl5 (by decide) (List.mem_of_getElem? (i := 199) (by decide +kernel)) rfl rfl rfl rfl (Nat.le_of_ble_eq_true rfl) ?_
  refine n_aload dX5_init_24 rfl ?_
  refine n_iconst dX5_init_25 ?_
  refine n_put (pre := pre) (j := 4) dX5_init_26 vm_cl5 (by decide) (List.mem_of_getElem? (i := 203) (by decide +kernel)) rfl rfl rfl rfl (Nat.le_of_ble_eq_true rfl) ?_
  refine n_aload dX5_init_29 rfl ?_
  refine n_bipush dX5_init_30 ?_
  refine n_newI dX5_init_32 ma_I (show (6 : Int32) = nI 6 from rfl) (by decide) (Nat.le_of_ble_eq_true rfl) (Nat.le_of_ble_eq_true rfl) (fun q1 => ?_)
  rw [n_app]
  refine n_put (pre := pre) (j := 5) dX5_init_34 vm_cl5 (by decide) (List.mem_of_getElem? (i := 205) (by decide +kernel)) rfl rfl rfl rfl (Nat.le_of_ble_eq_true rfl) ?_
  refine n_return dX5_init_37 rfl (Nat.le_of_ble_eq_true rfl) (Nat.le_of_ble_eq_true rfl) ?_
  exact hQ q1
theorem mk_X6_init {pre : va_W} {a : Nat} (hQ : ∀ q1 q2 q3 q4 : Nat, Q (pre ++ [(a, .inr (6, [.int (-1), .int 0, .int 0, .int 0, .int 0, .ref q1, .ref q2, .ref q3, .ref q4])), (q1, .inl (tc.1, 9, .inl (fun _ => 0))), (q2, .inl (tc.1, 9, .inl (fun _ => 0))), (q3, .inl (tc.1, 9, .inl (fun _ => 0))), (q4, .inl (tc.1, 9, .inl (fun _ => 0)))])) : NOk l G tc 1 4 36 mX6_init [.ref a] (pre ++ [(a, .inr (6, [.int 0, .int 0, .int 0, .int 0, .int 0, .null, .null, .null, .null]))]) Q := by
  refine n_enter rfl rfl (Nat.le_of_ble_eq_true rfl) ?_
  refine n_aload dX6_init_0 rfl ?_
  refine n_obj dX6_init_1 (List.mem_of_getElem? (i := 133) (by decide +kernel)) mo_i mo_c (Nat.le_refl _) (Nat.le_of_ble_eq_true rfl) ?_
  refine n_aload dX6_init_4 rfl ?_
  refine n_iconst dX6_init_5 ?_
  refine n_put (pre := pre) (j := 0) dX6_init_6 vm_cl6 (by decide) (List.mem_of_getElem? (i := 134) (by decide +kernel)) rfl rfl rfl rfl (Nat.le_of_ble_eq_true rfl) ?_
  refine n_aload dX6_init_9 rfl ?_
  refine n_iconst dX6_init_10 ?_
  refine n_put (pre := pre) (j := 1) dX6_init_11 vm_cl6 (by decide) (List.mem_of_getElem? (i := 136) (by decide +kernel)) rfl rfl rfl rfl (Nat.le_of_ble_eq_true rfl) ?_
  refine n_aload dX6_init_14 rfl ?_
  refine n_iconst dX6_init_15 ?_
  refine n_put (pre := pre) (j := 2) dX6_init_16 vm_cl6 (by decide) (List.mem_of_getElem? (i := 140) (by decide +kernel)) rfl rfl rfl rfl (Nat.le_of_ble_eq_true rfl) ?_
  refine n_aload dX6_init_19 rfl ?_
  refine n_iconst dX6_init_20 ?_
  refine n_put (pre := pre) (j := 3) dX6_init_21 vm_cl6 (by decide) (List.mem_of_getElem? (i := 142) (by decide +kernel)) rfl rfl rfl rfl (Nat.le_of_ble_eq_true rfl) ?_
  refine n_aload dX6_init_24 rfl ?_
  refine n_iconst dX6_init_25 ?_
  refine n_put (pre := pre) (j := 4) dX6_init_26 vm_cl6 (by decide) (List.mem_of_getElem? (i := 147) (by decide +kernel)) rfl rfl rfl rfl (Nat.le_of_ble_eq_true rfl) ?_
  refine n_aload dX6_init_29 rfl ?_
  refine n_bipush dX6_init_30 ?_
  refine n_newI dX6_init_32 ma_I (show (9 : Int32) = nI 9 from rfl) (by decide) (Nat.le_of_ble_eq_true rfl) (Nat.le_of_ble_eq_true rfl) (fun q1 => ?_)
  rw [n_app]
  refine n_put (pre := pre) (j := 5) dX6_init_34 vm_cl6 (by decide) (List.mem_of_getElem? (i := 156) (by decide +kernel)) rfl rfl rfl rfl (Nat.le_of_ble_eq_true rfl) ?_
  refine n_aload dX6_init_37 rfl ?_
  refine n_bipush dX6_init_38 ?_
  refine n_newI dX6_init_40 ma_I (show (9 : Int32) = nI 9 from rfl) (by decide) (Nat.le_of_ble_eq_true rfl) (Nat.le_of_ble_eq_true rfl) (fun q2 => ?_)
  rw [n_app]
  refine n_put (pre := pre) (j := 6) dX6_init_42 vm_cl6 (by decide) (List.mem_of_getElem? (i := 158) (by decide +kernel)) rfl rfl rfl rfl (Nat.le_of_ble_eq_true rfl) ?_
  refine n_aload dX6_init_45 rfl ?_
  refine n_bipush dX6_init_46 ?_
  refine n_newI dX6_init_48 ma_I (show (9 : Int32) = nI 9 from rfl) (by decide) (Nat.le_of_ble_eq_true rfl) (Nat.le_of_ble_eq_true rfl) (fun q3 => ?_)
  rw [n_app]
  refine n_put (pre := pre) (j := 7) dX6_init_50 vm_cl6 (by decide) (List.mem_of_getElem? (i := 162) (by decide +kernel)) rfl rfl rfl rfl (Nat.le_of_ble_eq_true rfl) ?_
  refine n_aload dX6_init_53 rfl ?_
  refine n_bipush dX6_init_54 ?_
  refine n_newI dX6_init_56 ma_I (show (9 : Int32) = nI 9 from rfl) (by decide) (Nat.le_of_ble_eq_true rfl) (Nat.le_of_ble_eq_true rfl) (fun q4 => ?_)
  rw [n_app]
  refine n_put (pre := pre) (j := 8) dX6_init_58 vm_cl6 (by decide) (List.mem_of_getElem? (i := 164) (by decide +kernel)) rfl rfl rfl rfl (Nat.le_of_ble_eq_true rfl) ?_
  refine n_return dX6_init_61 rfl (Nat.le_of_ble_eq_true rfl) (Nat.le_of_ble_eq_true rfl) ?_
  exact hQ q1 q2 q3 q4
theorem mk_X7_init {pre : va_W} {a : Nat} (hQ : ∀ q1 q2 q3 : Nat, Q (pre ++ [(a, .inr (7, [.ref q1, .ref q2, .ref q3, .int 0, .int 0])), (q1, .inl (tc.2.1, 2048, .inr (.inl (fun _ => 0)))), (q2, .inl (tc.1, 60200, .inl (fun _ => 0))), (q3, .inl (tc.1, 60200, .inl (fun _ => 0)))])) : NOk l G tc 1 3 122448 mX7_init [.ref a] (pre ++ [(a, .inr (7, [.null, .null, .null, .int 0, .int 0]))]) Q := by
  refine n_enter rfl rfl (Nat.le_of_ble_eq_true rfl) ?_
  refine n_aload dX7_init_0 rfl ?_
  refine n_obj dX7_init_1 (List.mem_of_getElem? (i := 244) (by decide +kernel)) mo_i mo_c (Nat.le_refl _) (Nat.le_of_ble_eq_true rfl) ?_
  refine n_aload dX7_init_4 rfl ?_
  refine n_sipush dX7_init_5 ?_
  refine n_newJ dX7_init_8 ma_J (show (2048 : Int32) = nI 2048 from rfl) (by decide) (Nat.le_of_ble_eq_true rfl) (Nat.le_of_ble_eq_true rfl) (fun q1 => ?_)
  rw [n_app]
  refine n_put (pre := pre) (j := 0) dX7_init_10 vm_cl7 (by decide) (List.mem_of_getElem? (i := 246) (by decide +kernel)) rfl rfl rfl rfl (Nat.le_of_ble_eq_true rfl) ?_
  refine n_aload dX7_init_13 rfl ?_
  refine n_ldc (z := 60200) dX7_init_14 (List.mem_of_getElem? (i := 245) (by decide +kernel)) ?_
  refine n_newI dX7_init_16 ma_I (show (60200 : Int32) = nI 60200 from rfl) (by decide) (Nat.le_of_ble_eq_true rfl) (Nat.le_of_ble_eq_true rfl) (fun q2 => ?_)
  rw [n_app]
  refine n_put (pre := pre) (j := 1) dX7_init_18 vm_cl7 (by decide) (List.mem_of_getElem? (i := 247) (by decide +kernel)) rfl rfl rfl rfl (Nat.le_of_ble_eq_true rfl) ?_
  refine n_aload dX7_init_21 rfl ?_
  refine n_ldc (z := 60200) dX7_init_22 (List.mem_of_getElem? (i := 245) (by decide +kernel)) ?_
  refine n_newI dX7_init_24 ma_I (show (60200 : Int32) = nI 60200 from rfl) (by decide) (Nat.le_of_ble_eq_true rfl) (Nat.le_of_ble_eq_true rfl) (fun q3 => ?_)
  rw [n_app]
  refine n_put (pre := pre) (j := 2) dX7_init_26 vm_cl7 (by decide) (List.mem_of_getElem? (i := 252) (by decide +kernel)) rfl rfl rfl rfl (Nat.le_of_ble_eq_true rfl) ?_
  refine n_aload dX7_init_29 rfl ?_
  refine n_iconst dX7_init_30 ?_
  refine n_put (pre := pre) (j := 3) dX7_init_31 vm_cl7 (by decide) (List.mem_of_getElem? (i := 257) (by decide +kernel)) rfl rfl rfl rfl (Nat.le_of_ble_eq_true rfl) ?_
  refine n_aload dX7_init_34 rfl ?_
  refine n_iconst dX7_init_35 ?_
  refine n_put (pre := pre) (j := 4) dX7_init_36 vm_cl7 (by decide) (List.mem_of_getElem? (i := 261) (by decide +kernel)) rfl rfl rfl rfl (Nat.le_of_ble_eq_true rfl) ?_
  refine n_return dX7_init_39 rfl (Nat.le_of_ble_eq_true rfl) (Nat.le_of_ble_eq_true rfl) ?_
  exact hQ q1 q2 q3
theorem mk_X8_init {pre : va_W} {a r : Nat} (hQ : ∀ q1 q2 q3 : Nat, Q (pre ++ [(a, .inr (8, [.ref r, .ref q1, .ref q2, .ref q3, .int 0, .int 0, .int 0, .int (-1), .int (-1), .int (-1)])), (q1, .inl (tc.1, 100, .inl (fun _ => 0))), (q2, .inl (tc.1, 100, .inl (fun _ => 0))), (q3, .inl (tc.1, 100, .inl (fun _ => 0)))])) : NOk l G tc 1 3 300 mX8_init [.ref a, .ref r] (pre ++ [(a, .inr (8, [.null, .null, .null, .null, .int 0, .int 0, .int 0, .int 0, .int 0, .int 0]))]) Q := by
  refine n_enter rfl rfl (Nat.le_of_ble_eq_true rfl) ?_
  refine n_aload dX8_init_0 rfl ?_
  refine n_obj dX8_init_1 (List.mem_of_getElem? (i := 280) (by decide +kernel)) mo_i mo_c (Nat.le_refl _) (Nat.le_of_ble_eq_true rfl) ?_
  refine n_aload dX8_init_4 rfl ?_
  refine n_bipush dX8_init_5 ?_
  refine n_newI dX8_init_7 ma_I (show (100 : Int32) = nI 100 from rfl) (by decide) (Nat.le_of_ble_eq_true rfl) (Nat.le_of_ble_eq_true rfl) (fun q1 => ?_)
  rw [n_app]
  refine n_put (pre := pre) (j := 1) dX8_init_9 vm_cl8 (by decide) (List.mem_of_getElem? (i := 282) (by decide +kernel)) rfl rfl rfl rfl (Nat.le_of_ble_eq_true rfl) ?_
  refine n_aload dX8_init_12 rfl ?_
  refine n_bipush dX8_init_13 ?_
  refine n_newI dX8_init_15 ma_I (show (100 : Int32) = nI 100 from rfl) (by decide) (Nat.le_of_ble_eq_true rfl) (Nat.le_of_ble_eq_true rfl) (fun q2 => ?_)
  rw [n_app]
  refine n_put (pre := pre) (j := 2) dX8_init_17 vm_cl8 (by decide) (List.mem_of_getElem? (i := 283) (by decide +kernel)) rfl rfl rfl rfl (Nat.le_of_ble_eq_true rfl) ?_
  refine n_aload dX8_init_20 rfl ?_
  refine n_bipush dX8_init_21 ?_
  refine n_newI dX8_init_23 ma_I (show (100 : Int32) = nI 100 from rfl) (by decide) (Nat.le_of_ble_eq_true rfl) (Nat.le_of_ble_eq_true rfl) (fun q3 => ?_)
  rw [n_app]
  refine n_put (pre := pre) (j := 3) dX8_init_25 vm_cl8 (by decide) (List.mem_of_getElem? (i := 284) (by decide +kernel)) rfl rfl rfl rfl (Nat.le_of_ble_eq_true rfl) ?_
  refine n_aload dX8_init_28 rfl ?_
  refine n_iconst dX8_init_29 ?_
  refine n_put (pre := pre) (j := 4) dX8_init_30 vm_cl8 (by decide) (List.mem_of_getElem? (i := 285) (by decide +kernel)) rfl rfl rfl rfl (Nat.le_of_ble_eq_true rfl) ?_
  refine n_aload dX8_init_33 rfl ?_
  refine n_iconst dX8_init_34 ?_
  refine n_put (pre := pre) (j := 5) dX8_init_35 vm_cl8 (by decide) (List.mem_of_getElem? (i := 286) (by decide +kernel)) rfl rfl rfl rfl (Nat.le_of_ble_eq_true rfl) ?_
  refine n_aload dX8_init_38 rfl ?_
  refine n_iconst dX8_init_39 ?_
  refine n_put (pre := pre) (j := 6) dX8_init_40 vm_cl8 (by decide) (List.mem_of_getElem? (i := 287) (by decide +kernel)) rfl rfl rfl rfl (Nat.le_of_ble_eq_true rfl) ?_
  refine n_aload dX8_init_43 rfl ?_
  refine n_iconst dX8_init_44 ?_
  refine n_put (pre := pre) (j := 7) dX8_init_45 vm_cl8 (by decide) (List.mem_of_getElem? (i := 288) (by decide +kernel)) rfl rfl rfl rfl (Nat.le_of_ble_eq_true rfl) ?_
  refine n_aload dX8_init_48 rfl ?_
  refine n_iconst dX8_init_49 ?_
  refine n_put (pre := pre) (j := 8) dX8_init_50 vm_cl8 (by decide) (List.mem_of_getElem? (i := 290) (by decide +kernel)) rfl rfl rfl rfl (Nat.le_of_ble_eq_true rfl) ?_
  refine n_aload dX8_init_53 rfl ?_
  refine n_iconst dX8_init_54 ?_
  refine n_put (pre := pre) (j := 9) dX8_init_55 vm_cl8 (by decide) (List.mem_of_getElem? (i := 292) (by decide +kernel)) rfl rfl rfl rfl (Nat.le_of_ble_eq_true rfl) ?_
  refine n_aload dX8_init_58 rfl ?_
  refine n_aload dX8_init_59 rfl ?_
  refine n_put (pre := pre) (j := 0) dX8_init_60 vm_cl8 (by decide) (List.mem_of_getElem? (i := 281) (by decide +kernel)) rfl rfl rfl rfl (Nat.le_of_ble_eq_true rfl) ?_
  refine n_return dX8_init_63 rfl (Nat.le_of_ble_eq_true rfl) (Nat.le_of_ble_eq_true rfl) ?_
  exact hQ q1 q2 q3
theorem mk_X9_init {pre : va_W} {a : Nat} (hQ : ∀ q1 : Nat, Q (pre ++ [(a, .inr (9, [.ref q1, .int 0, .int 0, .int (-1), .int 0, .int 0, .int 0, .int 0])), (q1, .inl (tc.1, 400, .inl (fun _ => 0)))])) : NOk l G tc 1 1 400 mX9_init [.ref a] (pre ++ [(a, .inr (9, [.null, .int 0, .int 0, .int 0, .int 0, .int 0, .int 0, .int 0]))]) Q := by
  refine n_enter rfl rfl (Nat.le_of_ble_eq_true rfl) ?_
  refine n_aload dX9_init_0 rfl ?_
  refine n_obj dX9_init_1 (List.mem_of_getElem? (i := 98) (by decide +kernel)) mo_i mo_c (Nat.le_refl _) (Nat.le_of_ble_eq_true rfl) ?_
  refine n_aload dX9_init_4 rfl ?_
  refine n_sipush dX9_init_5 ?_
  refine n_newI dX9_init_8 ma_I (show (400 : Int32) = nI 400 from rfl) (by decide) (Nat.le_of_ble_eq_true rfl) (Nat.le_of_ble_eq_true rfl) (fun q1 => ?_)
  rw [n_app]
  refine n_put (pre := pre) (j := 0) dX9_init_10 vm_cl9 (by decide) (List.mem_of_getElem? (i := 99) (by decide +kernel)) rfl rfl rfl rfl (Nat.le_of_ble_eq_true rfl) ?_
  refine n_aload dX9_init_13 rfl ?_
  refine n_iconst dX9_init_14 ?_
  refine n_put (pre := pre) (j := 1) dX9_init_15 vm_cl9 (by decide) (List.mem_of_getElem? (i := 100) (by decide +kernel)) rfl rfl rfl rfl (Nat.le_of_ble_eq_true rfl) ?_
  refine n_aload dX9_init_18 rfl ?_
  refine n_iconst dX9_init_19 ?_
  refine n_put (pre := pre) (j := 2) dX9_init_20 vm_cl9 (by decide) (List.mem_of_getElem? (i := 102) (by decide +kernel)) rfl rfl rfl rfl (Nat.le_of_ble_eq_true rfl) ?_
  refine n_aload dX9_init_23 rfl ?_
  refine n_iconst dX9_init_24 ?_
  refine n_put (pre := pre) (j := 3) dX9_init_25 vm_cl9 (by decide) (List.mem_of_getElem? (i := 104) (by decide +kernel)) rfl rfl rfl rfl (Nat.le_of_ble_eq_true rfl) ?_
  refine n_aload dX9_init_28 rfl ?_
  refine n_iconst dX9_init_29 ?_
  refine n_put (pre := pre) (j := 4) dX9_init_30 vm_cl9 (by decide) (List.mem_of_getElem? (i := 106) (by decide +kernel)) rfl rfl rfl rfl (Nat.le_of_ble_eq_true rfl) ?_
  refine n_aload dX9_init_33 rfl ?_
  refine n_iconst dX9_init_34 ?_
  refine n_put (pre := pre) (j := 5) dX9_init_35 vm_cl9 (by decide) (List.mem_of_getElem? (i := 107) (by decide +kernel)) rfl rfl rfl rfl (Nat.le_of_ble_eq_true rfl) ?_
  refine n_aload dX9_init_38 rfl ?_
  refine n_iconst dX9_init_39 ?_
  refine n_put (pre := pre) (j := 6) dX9_init_40 vm_cl9 (by decide) (List.mem_of_getElem? (i := 108) (by decide +kernel)) rfl rfl rfl rfl (Nat.le_of_ble_eq_true rfl) ?_
  refine n_aload dX9_init_43 rfl ?_
  refine n_iconst dX9_init_44 ?_
  refine n_put (pre := pre) (j := 7) dX9_init_45 vm_cl9 (by decide) (List.mem_of_getElem? (i := 109) (by decide +kernel)) rfl rfl rfl rfl (Nat.le_of_ble_eq_true rfl) ?_
  refine n_return dX9_init_48 rfl (Nat.le_of_ble_eq_true rfl) (Nat.le_of_ble_eq_true rfl) ?_
  exact hQ q1
theorem mk_X10_init {pre : va_W} {a : Nat} (hQ : ∀ q1 q2 q3 : Nat, Q (pre ++ [(a, .inr (10, [.ref q1, .ref q2, .ref q3, .int 0])), (q1, .inl (tc.1, 40, .inl (fun _ => 0))), (q2, .inl (tc.1, 40, .inl (fun _ => 0))), (q3, .inl (tc.1, 8, .inl (fun _ => 0)))])) : NOk l G tc 1 3 88 mX10_init [.ref a] (pre ++ [(a, .inr (10, [.null, .null, .null, .int 0]))]) Q := by
  refine n_enter rfl rfl (Nat.le_of_ble_eq_true rfl) ?_
  refine n_aload dX10_init_0 rfl ?_
  refine n_obj dX10_init_1 (List.mem_of_getElem? (i := 393) (by decide +kernel)) mo_i mo_c (Nat.le_refl _) (Nat.le_of_ble_eq_true rfl) ?_
  refine n_aload dX10_init_4 rfl ?_
  refine n_bipush dX10_init_5 ?_
  refine n_newI dX10_init_7 ma_I (show (40 : Int32) = nI 40 from rfl) (by decide) (Nat.le_of_ble_eq_true rfl) (Nat.le_of_ble_eq_true rfl) (fun q1 => ?_)
  rw [n_app]
  refine n_put (pre := pre) (j := 0) dX10_init_9 vm_cl10 (by decide) (List.mem_of_getElem? (i := 394) (by decide +kernel)) rfl rfl rfl rfl (Nat.le_of_ble_eq_true rfl) ?_
  refine n_aload dX10_init_12 rfl ?_
  refine n_bipush dX10_init_13 ?_
  refine n_newI dX10_init_15 ma_I (show (40 : Int32) = nI 40 from rfl) (by decide) (Nat.le_of_ble_eq_true rfl) (Nat.le_of_ble_eq_true rfl) (fun q2 => ?_)
  rw [n_app]
  refine n_put (pre := pre) (j := 1) dX10_init_17 vm_cl10 (by decide) (List.mem_of_getElem? (i := 395) (by decide +kernel)) rfl rfl rfl rfl (Nat.le_of_ble_eq_true rfl) ?_
  refine n_aload dX10_init_20 rfl ?_
  refine n_bipush dX10_init_21 ?_
  refine n_newI dX10_init_23 ma_I (show (8 : Int32) = nI 8 from rfl) (by decide) (Nat.le_of_ble_eq_true rfl) (Nat.le_of_ble_eq_true rfl) (fun q3 => ?_)
  rw [n_app]
  refine n_put (pre := pre) (j := 2) dX10_init_25 vm_cl10 (by decide) (List.mem_of_getElem? (i := 396) (by decide +kernel)) rfl rfl rfl rfl (Nat.le_of_ble_eq_true rfl) ?_
  refine n_aload dX10_init_28 rfl ?_
  refine n_iconst dX10_init_29 ?_
  refine n_put (pre := pre) (j := 3) dX10_init_30 vm_cl10 (by decide) (List.mem_of_getElem? (i := 397) (by decide +kernel)) rfl rfl rfl rfl (Nat.le_of_ble_eq_true rfl) ?_
  refine n_return dX10_init_33 rfl (Nat.le_of_ble_eq_true rfl) (Nat.le_of_ble_eq_true rfl) ?_
  exact hQ q1 q2 q3
end MKS
