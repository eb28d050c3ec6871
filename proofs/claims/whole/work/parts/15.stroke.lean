/-! ===== the class's reckoner: what a stroke makes of a state ===== -/
def vIsR (r : Nat) : Prop := r = 3 ∨ r = 8
def RepR (σ : Wd) (r : Nat) (R : Rk) : Prop := σ.1 r 0 = iz R.1 ∧ σ.1 r 1 = nI R.2.1 ∧ σ.1 r 2 = nI R.2.2.1 ∧ σ.1 r 3 = nI R.2.2.2.1 ∧ σ.1 r 4 = nI R.2.2.2.2.length ∧
  ∀ (i : Nat) (k : Ky), R.2.2.2.2[i]? = some k → σ.1 (r + 1) i = nI k.1 ∧ σ.1 (r + 2) i = nI k.2.1 ∧ σ.1 (r + 3) i = iz k.2.2.1 ∧ σ.1 (r + 4) i = iz k.2.2.2
theorem vIsR.lay {r : Nat} (h : vIsR r) : vm_lay[r]? = some (0, 6) := by rcases h with rfl | rfl <;> rfl
theorem vIsR.q5 {r : Nat} (h : vIsR r) : (vm_crs.getD r []).getD 5 0 = r + 1 := by rcases h with rfl | rfl <;> rfl
theorem vIsR.q6 {r : Nat} (h : vIsR r) : (vm_crs.getD r []).getD 6 0 = r + 2 := by rcases h with rfl | rfl <;> rfl
theorem vIsR.q7 {r : Nat} (h : vIsR r) : (vm_crs.getD r []).getD 7 0 = r + 3 := by rcases h with rfl | rfl <;> rfl
theorem vIsR.q8 {r : Nat} (h : vIsR r) : (vm_crs.getD r []).getD 8 0 = r + 4 := by rcases h with rfl | rfl <;> rfl
theorem vIsR.l1 {r : Nat} (h : vIsR r) : vm_lay[r + 1]? = some (1, 9) := by rcases h with rfl | rfl <;> rfl
theorem vIsR.l2 {r : Nat} (h : vIsR r) : vm_lay[r + 2]? = some (1, 9) := by rcases h with rfl | rfl <;> rfl
theorem vIsR.l3 {r : Nat} (h : vIsR r) : vm_lay[r + 3]? = some (1, 9) := by rcases h with rfl | rfl <;> rfl
theorem vIsR.l4 {r : Nat} (h : vIsR r) : vm_lay[r + 4]? = some (1, 9) := by rcases h with rfl | rfl <;> rfl
section RS
variable {D : Nat} {σ : Wd} {Q : Option Value → Wd → Prop} {r : Nat} {R : Rk}
theorem rk_z_b {sg x y : Nat} (hx : x < 128) (hy : y < 128) : -128 < rk_z sg x y ∧ rk_z sg x y < 16384 := by
  have h : (x : Int) * y < 16384 := by
    have : x * y ≤ 127 * 127 := Nat.mul_le_mul (by omega) (by omega)
    have h2 : ((x * y : Nat) : Int) ≤ ((127 * 127 : Nat) : Int) := Int.ofNat_le.mpr this
    rw [Int.natCast_mul] at h2
    omega
  have h0 : 0 ≤ (x : Int) * y := Int.mul_nonneg (by omega) (by omega)
  unfold rk_z
  split
  · omega
  · split <;> omega
theorem ok_reckon {x y sg : Nat} (hr : vIsR r) (hR : RepR σ r R) (hk : R.1 = 0 ∨ R.1 = 1) (hm : 0 < R.2.2.2.1) (hm2 : R.2.2.2.1 ≤ 100) (hx : x < 128) (hy : y < 128) (hs : sg < 128) (hQ : Q (some (.int (nI (rk_rec R sg x y)))) σ) : Ok (D + 1) mX6_reckon [.ref r, .int (nI x), .int (nI sg), .int (nI y)] σ Q := by
  obtain ⟨h0, h1, h2, h3, h4, h5⟩ := hR
  obtain ⟨b1, b2⟩ := rk_z_b (sg := sg) hx hy
  have hlay := hr.lay
  rw [iz_nI] at h3
  rw [iz_nI] at hQ
  have tail : ∀ w : Int32, w = iz (rk_z sg x y) → V mX6_reckon (D + 1) 25 [some (.ref r), some (.int (nI x)), some (.int (nI sg)), some (.int (nI y)), none] [.int w] σ Q := by
    intro w hw
    subst hw
    generalize hz : rk_z sg x y = z at b1 b2
    have hq : (rk_rec R sg x y : Int) = if R.1 = 1 then (if z < 0 then 0 else if (R.2.2.2.1 : Int) ≤ z then (R.2.2.2.1 : Int) - 1 else z) else z % (R.2.2.2.1 : Int) := by
      have e0 := Int.emod_nonneg z (show (R.2.2.2.1 : Int) ≠ 0 by omega)
      unfold rk_rec
      rw [hz]
      split
      · split
        · rfl
        · split <;> omega
      · omega
    rw [hq] at hQ
    refine v_istore dX6_reckon_25 (Nat.le_of_ble_eq_true rfl) rfl ?_
    refine v_iload dX6_reckon_27 rfl ?_
    refine v_if_lt dX6_reckon_29 (fun zc29 => ?_) (fun zc29 => ?_)
    · try simp (disch := omega) only [iz_lit, iz_nI, iz_neg, iz_add, iz_sub, iz_mul, iz_lt, iz_le, iz_eq] at zc29
      refine v_iload dX6_reckon_44 rfl ?_
      refine v_if_ge dX6_reckon_46 (fun zc46 => ?_) (fun zc46 => ?_)
      · try simp (disch := omega) only [iz_lit, iz_nI, iz_neg, iz_add, iz_sub, iz_mul, iz_lt, iz_le, iz_eq] at zc46
        refine v_aload_n dX6_reckon_57 rfl ?_
        refine v_getI dX6_reckon_58 fl_RX6_21 hlay ?_
        rw [h3]
        refine v_if_gt dX6_reckon_61 (fun zc61 => ?_) (fun zc61 => ?_)
        · try simp (disch := omega) only [iz_lit, iz_nI, iz_neg, iz_add, iz_sub, iz_mul, iz_lt, iz_le, iz_eq] at zc61
          refine v_aload_n dX6_reckon_66 rfl ?_
          refine v_getI dX6_reckon_67 fl_RX6_9 hlay ?_
          rw [h0]
          refine v_iconst dX6_reckon_70 ?_
          refine v_icmp_ne dX6_reckon_71 (fun zc71 => ?_) (fun zc71 => ?_)
          · try simp (disch := omega) only [iz_lit, iz_nI, iz_neg, iz_add, iz_sub, iz_mul, iz_lt, iz_le, iz_eq] at zc71
            refine v_iload dX6_reckon_83 rfl ?_
            refine v_aload_n dX6_reckon_85 rfl ?_
            refine v_getI dX6_reckon_86 fl_RX6_21 hlay ?_
            rw [h3]
            refine v_callS2 dX6_reckon_89 ms_RX6_79 (Nat.le_of_ble_eq_true rfl) ?_
            refine ok_floorMod (by omega) (by omega) (by omega) (by omega) ?_
            show V _ _ _ _ (_ :: _) _ _
            refine v_ireturn dX6_reckon_92 rfl (rfl) ?_
            first | (rw [if_pos (by omega), if_neg (by omega), if_pos (by omega)] at hQ; rw [iz_lit, iz_sub]; exact hQ) | (rw [if_neg (by omega)] at hQ; exact hQ)
          · try simp (disch := omega) only [iz_lit, iz_nI, iz_neg, iz_add, iz_sub, iz_mul, iz_lt, iz_le, iz_eq] at zc71
            refine v_aload_n dX6_reckon_74 rfl ?_
            refine v_getI dX6_reckon_75 fl_RX6_21 hlay ?_
            rw [h3]
            refine v_iconst dX6_reckon_78 ?_
            refine v_isub dX6_reckon_79 ?_
            refine v_goto dX6_reckon_80 ?_
            refine v_ireturn dX6_reckon_92 rfl (rfl) ?_
            first | (rw [if_pos (by omega), if_neg (by omega), if_pos (by omega)] at hQ; rw [iz_lit, iz_sub]; exact hQ) | (rw [if_neg (by omega)] at hQ; exact hQ)
        · try simp (disch := omega) only [iz_lit, iz_nI, iz_neg, iz_add, iz_sub, iz_mul, iz_lt, iz_le, iz_eq] at zc61
          exfalso; omega
      · try simp (disch := omega) only [iz_lit, iz_nI, iz_neg, iz_add, iz_sub, iz_mul, iz_lt, iz_le, iz_eq] at zc46
        refine v_aload_n dX6_reckon_49 rfl ?_
        refine v_getI dX6_reckon_50 fl_RX6_9 hlay ?_
        rw [h0]
        refine v_iconst dX6_reckon_53 ?_
        refine v_icmp_eq dX6_reckon_54 (fun zc54 => ?_) (fun zc54 => ?_)
        · try simp (disch := omega) only [iz_lit, iz_nI, iz_neg, iz_add, iz_sub, iz_mul, iz_lt, iz_le, iz_eq] at zc54
          refine v_iconst dX6_reckon_64 ?_
          refine v_ireturn dX6_reckon_65 rfl (rfl) ?_
          rw [if_pos (by omega), if_pos (by omega)] at hQ
          exact hQ
        · try simp (disch := omega) only [iz_lit, iz_nI, iz_neg, iz_add, iz_sub, iz_mul, iz_lt, iz_le, iz_eq] at zc54
          refine v_aload_n dX6_reckon_57 rfl ?_
          refine v_getI dX6_reckon_58 fl_RX6_21 hlay ?_
          rw [h3]
          refine v_if_gt dX6_reckon_61 (fun zc61 => ?_) (fun zc61 => ?_)
          · try simp (disch := omega) only [iz_lit, iz_nI, iz_neg, iz_add, iz_sub, iz_mul, iz_lt, iz_le, iz_eq] at zc61
            refine v_aload_n dX6_reckon_66 rfl ?_
            refine v_getI dX6_reckon_67 fl_RX6_9 hlay ?_
            rw [h0]
            refine v_iconst dX6_reckon_70 ?_
            refine v_icmp_ne dX6_reckon_71 (fun zc71 => ?_) (fun zc71 => ?_)
            · try simp (disch := omega) only [iz_lit, iz_nI, iz_neg, iz_add, iz_sub, iz_mul, iz_lt, iz_le, iz_eq] at zc71
              refine v_iload dX6_reckon_83 rfl ?_
              refine v_aload_n dX6_reckon_85 rfl ?_
              refine v_getI dX6_reckon_86 fl_RX6_21 hlay ?_
              rw [h3]
              refine v_callS2 dX6_reckon_89 ms_RX6_79 (Nat.le_of_ble_eq_true rfl) ?_
              refine ok_floorMod (by omega) (by omega) (by omega) (by omega) ?_
              show V _ _ _ _ (_ :: _) _ _
              refine v_ireturn dX6_reckon_92 rfl (rfl) ?_
              first | (rw [if_pos (by omega), if_neg (by omega), if_pos (by omega)] at hQ; rw [iz_lit, iz_sub]; exact hQ) | (rw [if_neg (by omega)] at hQ; exact hQ)
            · try simp (disch := omega) only [iz_lit, iz_nI, iz_neg, iz_add, iz_sub, iz_mul, iz_lt, iz_le, iz_eq] at zc71
              refine v_aload_n dX6_reckon_74 rfl ?_
              refine v_getI dX6_reckon_75 fl_RX6_21 hlay ?_
              rw [h3]
              refine v_iconst dX6_reckon_78 ?_
              refine v_isub dX6_reckon_79 ?_
              refine v_goto dX6_reckon_80 ?_
              refine v_ireturn dX6_reckon_92 rfl (rfl) ?_
              first | (rw [if_pos (by omega), if_neg (by omega), if_pos (by omega)] at hQ; rw [iz_lit, iz_sub]; exact hQ) | (rw [if_neg (by omega)] at hQ; exact hQ)
          · try simp (disch := omega) only [iz_lit, iz_nI, iz_neg, iz_add, iz_sub, iz_mul, iz_lt, iz_le, iz_eq] at zc61
            exfalso; omega
    · try simp (disch := omega) only [iz_lit, iz_nI, iz_neg, iz_add, iz_sub, iz_mul, iz_lt, iz_le, iz_eq] at zc29
      refine v_iload dX6_reckon_32 rfl ?_
      refine v_aload_n dX6_reckon_34 rfl ?_
      refine v_getI dX6_reckon_35 fl_RX6_21 hlay ?_
      rw [h3]
      refine v_icmp_ge dX6_reckon_38 (fun zc38 => ?_) (fun zc38 => ?_)
      · try simp (disch := omega) only [iz_lit, iz_nI, iz_neg, iz_add, iz_sub, iz_mul, iz_lt, iz_le, iz_eq] at zc38
        refine v_iload dX6_reckon_44 rfl ?_
        refine v_if_ge dX6_reckon_46 (fun zc46 => ?_) (fun zc46 => ?_)
        · try simp (disch := omega) only [iz_lit, iz_nI, iz_neg, iz_add, iz_sub, iz_mul, iz_lt, iz_le, iz_eq] at zc46
          refine v_aload_n dX6_reckon_57 rfl ?_
          refine v_getI dX6_reckon_58 fl_RX6_21 hlay ?_
          rw [h3]
          refine v_if_gt dX6_reckon_61 (fun zc61 => ?_) (fun zc61 => ?_)
          · try simp (disch := omega) only [iz_lit, iz_nI, iz_neg, iz_add, iz_sub, iz_mul, iz_lt, iz_le, iz_eq] at zc61
            refine v_aload_n dX6_reckon_66 rfl ?_
            refine v_getI dX6_reckon_67 fl_RX6_9 hlay ?_
            rw [h0]
            refine v_iconst dX6_reckon_70 ?_
            refine v_icmp_ne dX6_reckon_71 (fun zc71 => ?_) (fun zc71 => ?_)
            · try simp (disch := omega) only [iz_lit, iz_nI, iz_neg, iz_add, iz_sub, iz_mul, iz_lt, iz_le, iz_eq] at zc71
              refine v_iload dX6_reckon_83 rfl ?_
              refine v_aload_n dX6_reckon_85 rfl ?_
              refine v_getI dX6_reckon_86 fl_RX6_21 hlay ?_
              rw [h3]
              refine v_callS2 dX6_reckon_89 ms_RX6_79 (Nat.le_of_ble_eq_true rfl) ?_
              refine ok_floorMod (by omega) (by omega) (by omega) (by omega) ?_
              show V _ _ _ _ (_ :: _) _ _
              refine v_ireturn dX6_reckon_92 rfl (rfl) ?_
              first | (rw [if_pos (by omega), if_neg (by omega), if_pos (by omega)] at hQ; rw [iz_lit, iz_sub]; exact hQ) | (rw [if_neg (by omega)] at hQ; exact hQ)
            · try simp (disch := omega) only [iz_lit, iz_nI, iz_neg, iz_add, iz_sub, iz_mul, iz_lt, iz_le, iz_eq] at zc71
              refine v_aload_n dX6_reckon_74 rfl ?_
              refine v_getI dX6_reckon_75 fl_RX6_21 hlay ?_
              rw [h3]
              refine v_iconst dX6_reckon_78 ?_
              refine v_isub dX6_reckon_79 ?_
              refine v_goto dX6_reckon_80 ?_
              refine v_ireturn dX6_reckon_92 rfl (rfl) ?_
              first | (rw [if_pos (by omega), if_neg (by omega), if_pos (by omega)] at hQ; rw [iz_lit, iz_sub]; exact hQ) | (rw [if_neg (by omega)] at hQ; exact hQ)
          · try simp (disch := omega) only [iz_lit, iz_nI, iz_neg, iz_add, iz_sub, iz_mul, iz_lt, iz_le, iz_eq] at zc61
            exfalso; omega
        · try simp (disch := omega) only [iz_lit, iz_nI, iz_neg, iz_add, iz_sub, iz_mul, iz_lt, iz_le, iz_eq] at zc46
          refine v_aload_n dX6_reckon_49 rfl ?_
          refine v_getI dX6_reckon_50 fl_RX6_9 hlay ?_
          rw [h0]
          refine v_iconst dX6_reckon_53 ?_
          refine v_icmp_eq dX6_reckon_54 (fun zc54 => ?_) (fun zc54 => ?_)
          · try simp (disch := omega) only [iz_lit, iz_nI, iz_neg, iz_add, iz_sub, iz_mul, iz_lt, iz_le, iz_eq] at zc54
            refine v_iconst dX6_reckon_64 ?_
            refine v_ireturn dX6_reckon_65 rfl (rfl) ?_
            rw [if_pos (by omega), if_pos (by omega)] at hQ
            exact hQ
          · try simp (disch := omega) only [iz_lit, iz_nI, iz_neg, iz_add, iz_sub, iz_mul, iz_lt, iz_le, iz_eq] at zc54
            refine v_aload_n dX6_reckon_57 rfl ?_
            refine v_getI dX6_reckon_58 fl_RX6_21 hlay ?_
            rw [h3]
            refine v_if_gt dX6_reckon_61 (fun zc61 => ?_) (fun zc61 => ?_)
            · try simp (disch := omega) only [iz_lit, iz_nI, iz_neg, iz_add, iz_sub, iz_mul, iz_lt, iz_le, iz_eq] at zc61
              refine v_aload_n dX6_reckon_66 rfl ?_
              refine v_getI dX6_reckon_67 fl_RX6_9 hlay ?_
              rw [h0]
              refine v_iconst dX6_reckon_70 ?_
              refine v_icmp_ne dX6_reckon_71 (fun zc71 => ?_) (fun zc71 => ?_)
              · try simp (disch := omega) only [iz_lit, iz_nI, iz_neg, iz_add, iz_sub, iz_mul, iz_lt, iz_le, iz_eq] at zc71
                refine v_iload dX6_reckon_83 rfl ?_
                refine v_aload_n dX6_reckon_85 rfl ?_
                refine v_getI dX6_reckon_86 fl_RX6_21 hlay ?_
                rw [h3]
                refine v_callS2 dX6_reckon_89 ms_RX6_79 (Nat.le_of_ble_eq_true rfl) ?_
                refine ok_floorMod (by omega) (by omega) (by omega) (by omega) ?_
                show V _ _ _ _ (_ :: _) _ _
                refine v_ireturn dX6_reckon_92 rfl (rfl) ?_
                first | (rw [if_pos (by omega), if_neg (by omega), if_pos (by omega)] at hQ; rw [iz_lit, iz_sub]; exact hQ) | (rw [if_neg (by omega)] at hQ; exact hQ)
              · try simp (disch := omega) only [iz_lit, iz_nI, iz_neg, iz_add, iz_sub, iz_mul, iz_lt, iz_le, iz_eq] at zc71
                refine v_aload_n dX6_reckon_74 rfl ?_
                refine v_getI dX6_reckon_75 fl_RX6_21 hlay ?_
                rw [h3]
                refine v_iconst dX6_reckon_78 ?_
                refine v_isub dX6_reckon_79 ?_
                refine v_goto dX6_reckon_80 ?_
                refine v_ireturn dX6_reckon_92 rfl (rfl) ?_
                first | (rw [if_pos (by omega), if_neg (by omega), if_pos (by omega)] at hQ; rw [iz_lit, iz_sub]; exact hQ) | (rw [if_neg (by omega)] at hQ; exact hQ)
            · try simp (disch := omega) only [iz_lit, iz_nI, iz_neg, iz_add, iz_sub, iz_mul, iz_lt, iz_le, iz_eq] at zc61
              exfalso; omega
      · try simp (disch := omega) only [iz_lit, iz_nI, iz_neg, iz_add, iz_sub, iz_mul, iz_lt, iz_le, iz_eq] at zc38
        refine v_iload dX6_reckon_41 rfl ?_
        refine v_ireturn dX6_reckon_43 rfl (rfl) ?_
        rw [show (if R.1 = 1 then (if z < 0 then 0 else if (R.2.2.2.1 : Int) ≤ z then (R.2.2.2.1 : Int) - 1 else z) else z % (R.2.2.2.1 : Int)) = z by rcases hk with hk | hk; rw [hk, if_neg (by decide), Int.emod_eq_of_lt (by omega) (by omega)]; rw [if_pos hk, if_neg (by omega), if_neg (by omega)]] at hQ
        exact hQ
  refine ok_enter rfl (Nat.le_of_ble_eq_true rfl) ?_
  refine v_iload_n dX6_reckon_0 rfl ?_
  refine v_iconst dX6_reckon_1 ?_
  refine v_icmp_ne dX6_reckon_2 (fun zc2 => ?_) (fun zc2 => ?_)
  · try simp (disch := omega) only [iz_lit, iz_nI, iz_neg, iz_add, iz_sub, iz_mul, iz_lt, iz_le, iz_eq] at zc2
    refine v_iload_n dX6_reckon_11 rfl ?_
    refine v_iconst dX6_reckon_12 ?_
    refine v_icmp_ne dX6_reckon_13 (fun zc13 => ?_) (fun zc13 => ?_)
    · try simp (disch := omega) only [iz_lit, iz_nI, iz_neg, iz_add, iz_sub, iz_mul, iz_lt, iz_le, iz_eq] at zc13
      refine v_iload_n dX6_reckon_22 rfl ?_
      refine v_iload_n dX6_reckon_23 rfl ?_
      refine v_imul dX6_reckon_24 ?_
      refine tail _ ?_
      unfold rk_z
      first | (rw [if_pos (by omega), iz_nI, iz_nI, iz_add]) | (rw [if_neg (by omega), if_pos (by omega), iz_nI, iz_nI, iz_sub]) | (rw [if_neg (by omega), if_neg (by omega), iz_nI, iz_nI, iz_mul])
    · try simp (disch := omega) only [iz_lit, iz_nI, iz_neg, iz_add, iz_sub, iz_mul, iz_lt, iz_le, iz_eq] at zc13
      refine v_iload_n dX6_reckon_16 rfl ?_
      refine v_iload_n dX6_reckon_17 rfl ?_
      refine v_isub dX6_reckon_18 ?_
      refine v_goto dX6_reckon_19 ?_
      refine tail _ ?_
      unfold rk_z
      first | (rw [if_pos (by omega), iz_nI, iz_nI, iz_add]) | (rw [if_neg (by omega), if_pos (by omega), iz_nI, iz_nI, iz_sub]) | (rw [if_neg (by omega), if_neg (by omega), iz_nI, iz_nI, iz_mul])
  · try simp (disch := omega) only [iz_lit, iz_nI, iz_neg, iz_add, iz_sub, iz_mul, iz_lt, iz_le, iz_eq] at zc2
    refine v_iload_n dX6_reckon_5 rfl ?_
    refine v_iload_n dX6_reckon_6 rfl ?_
    refine v_iadd dX6_reckon_7 ?_
    refine v_goto dX6_reckon_8 ?_
    refine tail _ ?_
    unfold rk_z
    first | (rw [if_pos (by omega), iz_nI, iz_nI, iz_add]) | (rw [if_neg (by omega), if_pos (by omega), iz_nI, iz_nI, iz_sub]) | (rw [if_neg (by omega), if_neg (by omega), iz_nI, iz_nI, iz_mul])
theorem ps_or {w h s : Nat} (hw : w < 4) (hh : h < 128) (hs : s < 128) : (nI w <<< ((14 : Int32) &&& 31)) ||| (nI h <<< ((7 : Int32) &&& 31)) ||| nI s = nI (ps (s, w, h, 0)) := by
  rw [pk_shlN _ 14 rfl (by omega), pk_shlN _ 7 rfl (by omega), Nat.mul_comm w, nb_add 14 (by omega), show 2 ^ 14 * w + h * 2 ^ 7 = 2 ^ 7 * (128 * w + h) by omega, nb_add 7 (by omega)]
  congr 1
  unfold ps
  dsimp only
  omega
theorem ok_afterSign {s : St} {sg : Nat} (hr : vIsR r) (hR : RepR σ r R) (hk : R.1 = 0 ∨ R.1 = 1) (hm : 0 < R.2.2.2.1) (hm2 : R.2.2.2.1 ≤ 100) (hs : vS R.2.2.2.1 s) (hg : sg < 4) (hQ : Q (some (.int (nI (ps ((if s.2.1 ≠ 0 ∧ s.2.2.2 ≠ 0 then rk_rec R s.2.1 s.2.2.1 s.1 else s.1), sg, (if s.2.1 ≠ 0 ∧ s.2.2.2 ≠ 0 then rk_rec R s.2.1 s.2.2.1 s.1 else s.1), 0))))) σ) : Ok (D + 2) mX6_afterSign [.ref r, .int (nI (ps s)), .int (nI sg)] σ Q := by
  have hlay := hr.lay
  obtain ⟨s1, s2, s3, s4, s5⟩ := id hs
  have hrl := rk_rec_lt (R := R) (sign := s.2.1) (x := s.2.2.1) (y := s.1) hm
  have e1 := ps_sh hm2 hs
  have e2 := ps_he hm2 hs
  have e3 := ps_si hm2 hs
  have e4 := ps_ty hm2 hs
  refine ok_enter rfl (Nat.le_of_ble_eq_true rfl) ?_
  refine v_iload_n dX6_afterSign_0 rfl ?_
  refine v_callS1 dX6_afterSign_1 ms_RX6_63 (Nat.le_of_ble_eq_true rfl) ?_
  refine ok_shownIn ?_
  rw [e1]
  show V _ _ _ _ (_ :: _) _ _
  refine v_istore_n dX6_afterSign_4 (Nat.le_of_ble_eq_true rfl) rfl ?_
  refine v_iload_n dX6_afterSign_5 rfl ?_
  refine v_callS1 dX6_afterSign_6 ms_RX6_59 (Nat.le_of_ble_eq_true rfl) ?_
  refine ok_signIn ?_
  rw [e3]
  show V _ _ _ _ (_ :: _) _ _
  refine v_if_eq dX6_afterSign_9 (fun zc9 => ?_) (fun zc9 => ?_)
  · rw [show (0 : Int32) = nI 0 from rfl, nI_eq (by omega) (by omega)] at zc9
    refine v_iload_n dX6_afterSign_33 rfl ?_
    refine v_bipush dX6_afterSign_34 ?_
    refine v_ishl dX6_afterSign_36 ?_
    refine v_iload_n dX6_afterSign_37 rfl ?_
    refine v_bipush dX6_afterSign_38 ?_
    refine v_ishl dX6_afterSign_40 ?_
    refine v_ior dX6_afterSign_41 ?_
    refine v_iload_n dX6_afterSign_42 rfl ?_
    refine v_ior dX6_afterSign_43 ?_
    refine v_ireturn dX6_afterSign_44 rfl (rfl) ?_
    first | (rw [if_pos (by omega)] at hQ; rw [ps_or (by omega) (by omega) (by omega)]; exact hQ) | (rw [if_neg (by omega)] at hQ; rw [ps_or (by omega) (by omega) (by omega)]; exact hQ)
  · rw [show (0 : Int32) = nI 0 from rfl, nI_eq (by omega) (by omega)] at zc9
    refine v_iload_n dX6_afterSign_12 rfl ?_
    refine v_callS1 dX6_afterSign_13 ms_RX6_74 (Nat.le_of_ble_eq_true rfl) ?_
    refine ok_isTyped ?_
    show V _ _ _ _ (_ :: _) _ _
    refine v_if_eq dX6_afterSign_16 (fun zc16 => ?_) (fun zc16 => ?_)
    · rw [show ((if nI (ps s) &&& 65536 = 0 then (0 : Int32) else 1) = 0 ↔ s.2.2.2 = 0) by by_cases h : s.2.2.2 = 0; simp [e4, h]; simp [e4, h]] at zc16
      refine v_iload_n dX6_afterSign_33 rfl ?_
      refine v_bipush dX6_afterSign_34 ?_
      refine v_ishl dX6_afterSign_36 ?_
      refine v_iload_n dX6_afterSign_37 rfl ?_
      refine v_bipush dX6_afterSign_38 ?_
      refine v_ishl dX6_afterSign_40 ?_
      refine v_ior dX6_afterSign_41 ?_
      refine v_iload_n dX6_afterSign_42 rfl ?_
      refine v_ior dX6_afterSign_43 ?_
      refine v_ireturn dX6_afterSign_44 rfl (rfl) ?_
      first | (rw [if_pos (by omega)] at hQ; rw [ps_or (by omega) (by omega) (by omega)]; exact hQ) | (rw [if_neg (by omega)] at hQ; rw [ps_or (by omega) (by omega) (by omega)]; exact hQ)
    · rw [show ((if nI (ps s) &&& 65536 = 0 then (0 : Int32) else 1) = 0 ↔ s.2.2.2 = 0) by by_cases h : s.2.2.2 = 0; simp [e4, h]; simp [e4, h]] at zc16
      refine v_aload_n dX6_afterSign_19 rfl ?_
      refine v_iload_n dX6_afterSign_20 rfl ?_
      refine v_callS1 dX6_afterSign_21 ms_RX6_66 (Nat.le_of_ble_eq_true rfl) ?_
      refine ok_heldIn ?_
      rw [e2]
      show V _ _ _ _ (_ :: _) _ _
      refine v_iload_n dX6_afterSign_24 rfl ?_
      refine v_callS1 dX6_afterSign_25 ms_RX6_59 (Nat.le_of_ble_eq_true rfl) ?_
      refine ok_signIn ?_
      rw [e3]
      show V _ _ _ _ (_ :: _) _ _
      refine v_iload_n dX6_afterSign_28 rfl ?_
      refine v_callV3 dX6_afterSign_29 mv_RX6_69 hlay rfl (Nat.le_of_ble_eq_true rfl) ?_
      refine ok_reckon hr hR hk hm hm2 (by omega) (by omega) (by omega) ?_
      show V _ _ _ _ (_ :: _) _ _
      refine v_istore_n dX6_afterSign_32 (Nat.le_of_ble_eq_true rfl) rfl ?_
      refine v_iload_n dX6_afterSign_33 rfl ?_
      refine v_bipush dX6_afterSign_34 ?_
      refine v_ishl dX6_afterSign_36 ?_
      refine v_iload_n dX6_afterSign_37 rfl ?_
      refine v_bipush dX6_afterSign_38 ?_
      refine v_ishl dX6_afterSign_40 ?_
      refine v_ior dX6_afterSign_41 ?_
      refine v_iload_n dX6_afterSign_42 rfl ?_
      refine v_ior dX6_afterSign_43 ?_
      refine v_ireturn dX6_afterSign_44 rfl (rfl) ?_
      first | (rw [if_pos (by omega)] at hQ; rw [ps_or (by omega) (by omega) (by omega)]; exact hQ) | (rw [if_neg (by omega)] at hQ; rw [ps_or (by omega) (by omega) (by omega)]; exact hQ)
theorem iz_toN {z : Int} (h : 0 ≤ z) : iz z = nI z.toNat := by
  rw [iz_nI]
  congr 1
  omega
theorem ps_fig {m v : Nat} {s : St} (hm : m ≤ 100) (hs : vS m s) (hv : v < 128) : (nI (ps s) &&& (-128)) ||| 65536 ||| nI v = nI (ps (v, s.2.1, s.2.2.1, 1)) := by
  have hl := ps_lt hm hs
  obtain ⟨s1, s2, s3, s4, s5⟩ := hs
  rw [nb_hi _ (by omega)]
  have e1 : 128 * (ps s / 128) = 2 ^ 16 * s.2.2.2 + (16384 * s.2.1 + 128 * s.2.2.1) := by unfold ps; omega
  have e2 : nI (2 ^ 16 * s.2.2.2) ||| 65536 = nI (2 ^ 16 * 1) := by
    rcases (show s.2.2.2 = 0 ∨ s.2.2.2 = 1 by omega) with h | h <;> rw [h] <;> rfl
  rw [e1, ← nb_add 16 (by omega), Int32.or_assoc (nI (2 ^ 16 * s.2.2.2)), Int32.or_comm (nI (16384 * s.2.1 + 128 * s.2.2.1)), ← Int32.or_assoc, e2, nb_add 16 (by omega), show 2 ^ 16 * 1 + (16384 * s.2.1 + 128 * s.2.2.1) = 2 ^ 7 * (512 + 128 * s.2.1 + s.2.2.1) by omega, nb_add 7 (by omega)]
  congr 1
  unfold ps
  dsimp only
  omega
theorem ps_now {m v : Nat} {s : St} (hm : m ≤ 100) (hs : vS m s) (hv : v < 128) : (nI (ps s) &&& (-65664)) ||| nI v = nI (ps (v, s.2.1, s.2.2.1, 0)) := by
  have hl := ps_lt hm hs
  obtain ⟨s1, s2, s3, s4, s5⟩ := hs
  rw [nb_mid _ hl, show 128 * (ps s / 128 % 512) = 2 ^ 7 * (ps s / 128 % 512) by omega, nb_add 7 (by omega)]
  congr 1
  unfold ps
  dsimp only
  omega
theorem ok_afterFigure {s : St} {d : Nat} (hr : vIsR r) (hR : RepR σ r R) (hk : R.1 = 0 ∨ R.1 = 1) (hb : R.2.1 ≤ 10) (hm : 0 < R.2.2.2.1) (hm2 : R.2.2.2.1 ≤ 100) (hs : vS R.2.2.2.1 s) (hd : d < R.2.2.2.1) (hQ : Q (some (.int (nI (ps (rk_fig R s d))))) σ) : Ok (D + 1) mX6_afterFigure [.ref r, .int (nI (ps s)), .int (nI d)] σ Q := by
  have hlay := hr.lay
  obtain ⟨h0, h1, h2, h3, h4, h5⟩ := hR
  obtain ⟨s1, s2, s3, s4, s5⟩ := id hs
  have e1 := ps_sh hm2 hs
  have e4 := ps_ty hm2 hs
  have hb2 : s.1 * R.2.1 ≤ 1000 := by
    have : s.1 * R.2.1 ≤ 100 * 10 := Nat.mul_le_mul (by omega) hb
    omega
  have hml := Nat.mod_lt (s.1 * R.2.1 + d) hm
  have tail : ∀ v : Nat, v < 128 → rk_fig R s d = (v, s.2.1, s.2.2.1, 1) → ∀ lv3 : List (Option Value), lv3 = [some (.ref r), some (.int (nI (ps s))), some (.int (nI d)), some (.int (nI v))] → V mX6_afterFigure (D + 1) 58 lv3 [] σ Q := by
    intro v hv he lv3 hl3
    subst hl3
    rw [he] at hQ
    refine v_iload_n dX6_afterFigure_58 rfl ?_
    refine v_bipush dX6_afterFigure_59 ?_
    refine v_iand dX6_afterFigure_61 ?_
    refine v_ldc dX6_afterFigure_62 cn_RX6_78 ?_
    refine v_ior dX6_afterFigure_64 ?_
    refine v_iload_n dX6_afterFigure_65 rfl ?_
    refine v_ior dX6_afterFigure_66 ?_
    refine v_ireturn dX6_afterFigure_67 rfl (rfl) ?_
    rw [ps_fig hm2 hs hv]
    exact hQ
  refine ok_enter rfl (Nat.le_of_ble_eq_true rfl) ?_
  refine v_iload_n dX6_afterFigure_0 rfl ?_
  refine v_istore_n dX6_afterFigure_1 (Nat.le_of_ble_eq_true rfl) rfl ?_
  refine v_iload_n dX6_afterFigure_2 rfl ?_
  refine v_callS1 dX6_afterFigure_3 ms_RX6_74 (Nat.le_of_ble_eq_true rfl) ?_
  refine ok_isTyped ?_
  show V _ _ _ _ (_ :: _) _ _
  refine v_if_eq dX6_afterFigure_6 (fun zc6 => ?_) (fun zc6 => ?_)
  · rw [show ((if nI (ps s) &&& 65536 = 0 then (0 : Int32) else 1) = 0 ↔ s.2.2.2 = 0) by by_cases h : s.2.2.2 = 0; simp [e4, h]; simp [e4, h]] at zc6
    first | (refine tail d (by omega) ?_ _ rfl; unfold rk_fig; rw [if_pos (by omega)]; done) | (refine tail (s.1 * R.2.1 + d) (by omega) ?_ _ rfl; unfold rk_fig; rw [if_neg (by omega)]; rcases hk with hk | hk; (rw [if_neg (by omega), Nat.mod_eq_of_lt (by omega)]); (rw [if_pos hk, if_neg (by omega)]); done) | (refine tail s.1 (by omega) ?_ _ rfl; unfold rk_fig; rw [if_neg (by omega), if_pos (by omega), if_pos (by omega)]; done) | (refine tail ((s.1 * R.2.1 + d) % R.2.2.2.1) (by omega) ?_ _ rfl; unfold rk_fig; rw [if_neg (by omega), if_neg (by omega)]; done)
  · rw [show ((if nI (ps s) &&& 65536 = 0 then (0 : Int32) else 1) = 0 ↔ s.2.2.2 = 0) by by_cases h : s.2.2.2 = 0; simp [e4, h]; simp [e4, h]] at zc6
    refine v_iload_n dX6_afterFigure_9 rfl ?_
    refine v_callS1 dX6_afterFigure_10 ms_RX6_63 (Nat.le_of_ble_eq_true rfl) ?_
    refine ok_shownIn ?_
    rw [e1]
    show V _ _ _ _ (_ :: _) _ _
    refine v_aload_n dX6_afterFigure_13 rfl ?_
    refine v_getI dX6_afterFigure_14 fl_RX6_15 hlay ?_
    rw [h1]
    refine v_imul dX6_afterFigure_17 ?_
    refine v_iload_n dX6_afterFigure_18 rfl ?_
    refine v_iadd dX6_afterFigure_19 ?_
    refine v_istore_n dX6_afterFigure_20 (Nat.le_of_ble_eq_true rfl) rfl ?_
    rw [pk_mul, nI_add]
    refine v_iload_n dX6_afterFigure_21 rfl ?_
    refine v_aload_n dX6_afterFigure_22 rfl ?_
    refine v_getI dX6_afterFigure_23 fl_RX6_21 hlay ?_
    rw [h3]
    refine v_icmp_lt dX6_afterFigure_26 (fun zc26 => ?_) (fun zc26 => ?_)
    · rw [nI_ltI (by omega) (by omega)] at zc26
      first | (refine tail d (by omega) ?_ _ rfl; unfold rk_fig; rw [if_pos (by omega)]; done) | (refine tail (s.1 * R.2.1 + d) (by omega) ?_ _ rfl; unfold rk_fig; rw [if_neg (by omega)]; rcases hk with hk | hk; (rw [if_neg (by omega), Nat.mod_eq_of_lt (by omega)]); (rw [if_pos hk, if_neg (by omega)]); done) | (refine tail s.1 (by omega) ?_ _ rfl; unfold rk_fig; rw [if_neg (by omega), if_pos (by omega), if_pos (by omega)]; done) | (refine tail ((s.1 * R.2.1 + d) % R.2.2.2.1) (by omega) ?_ _ rfl; unfold rk_fig; rw [if_neg (by omega), if_neg (by omega)]; done)
    · rw [nI_ltI (by omega) (by omega)] at zc26
      refine v_aload_n dX6_afterFigure_29 rfl ?_
      refine v_getI dX6_afterFigure_30 fl_RX6_21 hlay ?_
      rw [h3]
      refine v_if_le dX6_afterFigure_33 (fun zc33 => ?_) (fun zc33 => ?_)
      · rw [show (0 : Int32) = nI 0 from rfl, nI_leI (by omega) (by omega)] at zc33; exfalso; omega
      · refine v_aload_n dX6_afterFigure_36 rfl ?_
        refine v_getI dX6_afterFigure_37 fl_RX6_9 hlay ?_
        rw [h0]
        refine v_iconst dX6_afterFigure_40 ?_
        refine v_icmp_ne dX6_afterFigure_41 (fun zc41 => ?_) (fun zc41 => ?_)
        · rw [iz_lit, iz_eq (by omega) (by omega) (by omega) (by omega)] at zc41
          refine v_iload_n dX6_afterFigure_51 rfl ?_
          refine v_aload_n dX6_afterFigure_52 rfl ?_
          refine v_getI dX6_afterFigure_53 fl_RX6_21 hlay ?_
          rw [h3]
          refine v_irem dX6_afterFigure_56 (by exact nI_ne0 hm (by omega)) ?_
          try rw [pk_rem (by omega) hm (by omega)]
          refine v_istore_n dX6_afterFigure_57 (Nat.le_of_ble_eq_true rfl) rfl ?_
          first | (refine tail d (by omega) ?_ _ rfl; unfold rk_fig; rw [if_pos (by omega)]; done) | (refine tail (s.1 * R.2.1 + d) (by omega) ?_ _ rfl; unfold rk_fig; rw [if_neg (by omega)]; rcases hk with hk | hk; (rw [if_neg (by omega), Nat.mod_eq_of_lt (by omega)]); (rw [if_pos hk, if_neg (by omega)]); done) | (refine tail s.1 (by omega) ?_ _ rfl; unfold rk_fig; rw [if_neg (by omega), if_pos (by omega), if_pos (by omega)]; done) | (refine tail ((s.1 * R.2.1 + d) % R.2.2.2.1) (by omega) ?_ _ rfl; unfold rk_fig; rw [if_neg (by omega), if_neg (by omega)]; done)
        · rw [iz_lit, iz_eq (by omega) (by omega) (by omega) (by omega)] at zc41
          refine v_iload_n dX6_afterFigure_44 rfl ?_
          refine v_callS1 dX6_afterFigure_45 ms_RX6_63 (Nat.le_of_ble_eq_true rfl) ?_
          refine ok_shownIn ?_
          rw [e1]
          show V _ _ _ _ (_ :: _) _ _
          refine v_goto dX6_afterFigure_48 ?_
          try rw [pk_rem (by omega) hm (by omega)]
          refine v_istore_n dX6_afterFigure_57 (Nat.le_of_ble_eq_true rfl) rfl ?_
          first | (refine tail d (by omega) ?_ _ rfl; unfold rk_fig; rw [if_pos (by omega)]; done) | (refine tail (s.1 * R.2.1 + d) (by omega) ?_ _ rfl; unfold rk_fig; rw [if_neg (by omega)]; rcases hk with hk | hk; (rw [if_neg (by omega), Nat.mod_eq_of_lt (by omega)]); (rw [if_pos hk, if_neg (by omega)]); done) | (refine tail s.1 (by omega) ?_ _ rfl; unfold rk_fig; rw [if_neg (by omega), if_pos (by omega), if_pos (by omega)]; done) | (refine tail ((s.1 * R.2.1 + d) % R.2.2.2.1) (by omega) ?_ _ rfl; unfold rk_fig; rw [if_neg (by omega), if_neg (by omega)]; done)
end RS
