/-! ===== the class's own small functions ===== -/
section SM
variable {D : Nat} {σ : Wd} {Q : Option Value → Wd → Prop}
theorem ok_shownIn {x : Int32} (hQ : Q (some (.int (x &&& 127))) σ) : Ok D mX11_shownIn [.int x] σ Q := by
  refine ok_enter rfl (Nat.le_of_ble_eq_true rfl) ?_
  refine v_iload_n dX11_shownIn_0 rfl ?_
  refine v_bipush dX11_shownIn_1 ?_
  refine v_iand dX11_shownIn_3 ?_
  refine v_ireturn dX11_shownIn_4 rfl (rfl) ?_
  exact hQ
theorem ok_heldIn {x : Int32} (hQ : Q (some (.int ((x >>> ((7 : Int32) &&& 31)) &&& 127))) σ) : Ok D mX11_heldIn [.int x] σ Q := by
  refine ok_enter rfl (Nat.le_of_ble_eq_true rfl) ?_
  refine v_iload_n dX11_heldIn_0 rfl ?_
  refine v_bipush dX11_heldIn_1 ?_
  refine v_ishr dX11_heldIn_3 ?_
  refine v_bipush dX11_heldIn_4 ?_
  refine v_iand dX11_heldIn_6 ?_
  refine v_ireturn dX11_heldIn_7 rfl (rfl) ?_
  exact hQ
theorem ok_signIn {x : Int32} (hQ : Q (some (.int ((x >>> ((14 : Int32) &&& 31)) &&& 3))) σ) : Ok D mX11_signIn [.int x] σ Q := by
  refine ok_enter rfl (Nat.le_of_ble_eq_true rfl) ?_
  refine v_iload_n dX11_signIn_0 rfl ?_
  refine v_bipush dX11_signIn_1 ?_
  refine v_ishr dX11_signIn_3 ?_
  refine v_iconst dX11_signIn_4 ?_
  refine v_iand dX11_signIn_5 ?_
  refine v_ireturn dX11_signIn_6 rfl (rfl) ?_
  exact hQ
theorem ok_isTyped {x : Int32} (hQ : Q (some (.int (if x &&& 65536 = 0 then 0 else 1))) σ) : Ok D mX11_isTyped [.int x] σ Q := by
  refine ok_enter rfl (Nat.le_of_ble_eq_true rfl) ?_
  refine v_iload_n dX11_isTyped_0 rfl ?_
  refine v_ldcw dX11_isTyped_1 cn_RX11_300 ?_
  refine v_iand dX11_isTyped_4 ?_
  refine v_if_eq dX11_isTyped_5 (fun zc5 => ?_) (fun zc5 => ?_)
  · refine v_iconst dX11_isTyped_12 ?_
    refine v_ireturn dX11_isTyped_13 rfl (rfl) ?_
    first | (rw [if_pos (by assumption)] at hQ; exact hQ) | (rw [if_neg (by assumption)] at hQ; exact hQ)
  · refine v_iconst dX11_isTyped_8 ?_
    refine v_goto dX11_isTyped_9 ?_
    refine v_ireturn dX11_isTyped_13 rfl (rfl) ?_
    first | (rw [if_pos (by assumption)] at hQ; exact hQ) | (rw [if_neg (by assumption)] at hQ; exact hQ)
/-- what 'at' reads -/
def vAt (σ : Wd) (k n : Nat) (x : Int32) : Int32 := if 0 ≤ x.toInt ∧ x.toInt < n then σ.1 k x.toInt.toNat else -1
theorem ok_at {k n : Nat} {x : Int32} (hk : vm_lay[k]? = some (1, n)) (hn : n < 2147483648) (hQ : Q (some (.int (vAt σ k n x))) σ) : Ok D mX11_at [.ref k, .int x] σ Q := by
  unfold vAt at hQ
  have hT := iz_TN hn
  refine ok_enter rfl (Nat.le_of_ble_eq_true rfl) ?_
  refine v_iload_n dX11_at_0 rfl ?_
  refine v_if_lt dX11_at_1 (fun zc1 => ?_) (fun zc1 => ?_)
  · refine v_iconst dX11_at_16 ?_
    refine v_ireturn dX11_at_17 rfl (rfl) ?_
    rw [iz_ltI, iz_T0] at zc1; try rw [iz_leI, hT] at zc7
    first | (rw [if_pos (by omega)] at hQ; exact hQ) | (rw [if_neg (by omega)] at hQ; exact hQ)
  · refine v_iload_n dX11_at_4 rfl ?_
    refine v_aload_n dX11_at_5 rfl ?_
    refine v_alen dX11_at_6 hk (Nat.le_of_ble_eq_true rfl) rfl ?_
    refine v_icmp_ge dX11_at_7 (fun zc7 => ?_) (fun zc7 => ?_)
    · refine v_iconst dX11_at_16 ?_
      refine v_ireturn dX11_at_17 rfl (rfl) ?_
      rw [iz_ltI, iz_T0] at zc1; try rw [iz_leI, hT] at zc7
      first | (rw [if_pos (by omega)] at hQ; exact hQ) | (rw [if_neg (by omega)] at hQ; exact hQ)
    · refine v_aload_n dX11_at_10 rfl ?_
      refine v_iload_n dX11_at_11 rfl ?_
      refine v_iaload dX11_at_12 hk (by rw [iz_ltI, iz_T0] at zc1; rw [iz_leI, hT] at zc7; exact iz_vin (by omega) (by omega)) ?_
      refine v_goto dX11_at_13 ?_
      refine v_ireturn dX11_at_17 rfl (rfl) ?_
      rw [iz_ltI, iz_T0] at zc1; try rw [iz_leI, hT] at zc7
      first | (rw [if_pos (by omega)] at hQ; exact hQ) | (rw [if_neg (by omega)] at hQ; exact hQ)
/-- what 'put' leaves -/
def wPut (σ : Wd) (k n : Nat) (x v : Int32) : Wd := if 0 ≤ x.toInt ∧ x.toInt < n then setI σ k x.toInt.toNat v else σ
theorem ok_put {k n : Nat} {x v : Int32} (hk : vm_lay[k]? = some (1, n)) (hn : n < 2147483648) (hQ : Q none (wPut σ k n x v)) : Ok D mX11_put [.ref k, .int x, .int v] σ Q := by
  unfold wPut at hQ
  have hT := iz_TN hn
  refine ok_enter rfl (Nat.le_of_ble_eq_true rfl) ?_
  refine v_iload_n dX11_put_0 rfl ?_
  refine v_if_lt dX11_put_1 (fun zc1 => ?_) (fun zc1 => ?_)
  · refine v_return dX11_put_14 rfl ?_
    rw [iz_ltI, iz_T0] at zc1; try rw [iz_leI, hT] at zc7
    first | (rw [if_pos (by omega)] at hQ; exact hQ) | (rw [if_neg (by omega)] at hQ; exact hQ)
  · refine v_iload_n dX11_put_4 rfl ?_
    refine v_aload_n dX11_put_5 rfl ?_
    refine v_alen dX11_put_6 hk (Nat.le_of_ble_eq_true rfl) rfl ?_
    refine v_icmp_ge dX11_put_7 (fun zc7 => ?_) (fun zc7 => ?_)
    · refine v_return dX11_put_14 rfl ?_
      rw [iz_ltI, iz_T0] at zc1; try rw [iz_leI, hT] at zc7
      first | (rw [if_pos (by omega)] at hQ; exact hQ) | (rw [if_neg (by omega)] at hQ; exact hQ)
    · refine v_aload_n dX11_put_10 rfl ?_
      refine v_iload_n dX11_put_11 rfl ?_
      refine v_iload_n dX11_put_12 rfl ?_
      refine v_iastore dX11_put_13 hk (by rw [iz_ltI, iz_T0] at zc1; rw [iz_leI, hT] at zc7; exact iz_vin (by omega) (by omega)) ?_
      refine v_return dX11_put_14 rfl ?_
      rw [iz_ltI, iz_T0] at zc1; try rw [iz_leI, hT] at zc7
      first | (rw [if_pos (by omega)] at hQ; exact hQ) | (rw [if_neg (by omega)] at hQ; exact hQ)
end SM
