/-! ===== the class's reckoner() ===== -/
section CRK
variable {D : Nat} {σ τ : Wd} {Q : Option Value → Wd → Prop} {T : List Nat} {r r' : Nat} {R : Rk}
theorem ok_creck (hr' : vIsR r') (hr : vIsR r) (hne : r ≠ r') (h01 : σ.2.2 0 1 = r) (h02 : σ.2.2 0 2 = r') (hX : RepX σ T) (hT : vT T)
    (hQ0 : ∀ τ f, Pread T = .inl f → (∀ a b, ¬ ((a = 1 ∧ 1 ≤ b ∧ b ≤ 7) ∨ (r' ≤ a ∧ a ≤ r' + 4)) → τ.1 a b = σ.1 a b) → τ.2 = σ.2 → τ.1 1 1 = 0 → τ.1 1 3 = nI f.2 → Q (some (.int (-10 - nI f.1))) τ)
    (hQ1 : ∀ τ R, Pread T = .inr R → (∀ a b, ¬ ((a = 1 ∧ 1 ≤ b ∧ b ≤ 7) ∨ (r' ≤ a ∧ a ≤ r' + 4) ∨ (a = 13 ∧ (b = 0 ∨ b = 1 ∨ b = 3)) ∨ (a = 19 ∧ b = 2) ∨ ((a = 15 ∨ a = 17) ∧ b = 4) ∨ (a = 26 ∧ (b = 5 ∨ b = 6)) ∨ (a = 22 ∧ b = 4) ∨ (a = 30 ∧ b = 5)) → τ.1 a b = σ.1 a b) → τ.2.2 0 1 = r' → τ.2.2 0 2 = r → (∀ p, p ≠ 0 → τ.2.2 p = σ.2.2 p) → τ.2.1 = σ.2.1 → τ.1 1 1 = 0 → τ.1 1 3 = -1 → RepR τ r' R → τ.1 13 0 = 0 → τ.1 13 1 = 0 → τ.1 13 3 = 0 → τ.1 19 2 = 0 → τ.1 15 4 = 0 → τ.1 17 4 = 0 → (τ.1 26 5 = 0 ∧ τ.1 26 6 = 0 ∧ τ.1 22 4 = 0 ∧ τ.1 30 5 = 0) → Q (some (.int (nI R.2.2.2.1))) τ) : Ok (D + 8) mX11_reckoner [.ref 0] σ Q := by
  have hr12 : r' + 4 < 13 ∧ 3 ≤ r' := by rcases hr' with rfl | rfl <;> omega
  refine ok_enter rfl (Nat.le_of_ble_eq_true rfl) ?_
  refine v_aload_n dX11_reckoner_0 rfl ?_
  refine v_getR (q := 1) dX11_reckoner_1 fl_RX11_12 rfl rfl ?_
  refine v_aload_n dX11_reckoner_4 rfl ?_
  refine v_getM dX11_reckoner_5 fl_RX11_23 rfl ?_
  rw [h02]
  refine v_callV1 dX11_reckoner_8 mv_RX11_107 rfl rfl (Nat.le_of_ble_eq_true rfl) ?_
  refine ok_read hr' hX hT (fun τ1 x1 e1 => ?_)
  show V _ _ _ _ (_ :: _) _ _
  refine v_istore_n dX11_reckoner_11 (Nat.le_of_ble_eq_true rfl) rfl ?_
  refine v_aload_n dX11_reckoner_12 rfl ?_
  refine v_getR (q := 1) dX11_reckoner_13 fl_RX11_12 rfl rfl ?_
  refine v_iconst dX11_reckoner_16 ?_
  refine v_putI dX11_reckoner_17 fp_RX11_98 rfl ?_
  refine v_iload_n dX11_reckoner_20 rfl ?_
  refine v_if_ne dX11_reckoner_21 (fun zc21 => ?_) (fun zc21 => ?_)
  · obtain ⟨-, R, q1, q2, q3, q4⟩ := e1.resolve_left (fun h => zc21 h.1)
    have g01 : τ1.2.2 0 1 = r := by rw [q2.2]; exact h01
    have g02 : τ1.2.2 0 2 = r' := by rw [q2.2]; exact h02
    refine v_aload_n dX11_reckoner_35 rfl ?_
    refine v_getM dX11_reckoner_36 fl_RX11_19 rfl ?_
    rw [show (setI τ1 1 1 0).2.2 0 1 = r from g01]
    refine v_astore_n dX11_reckoner_39 (Nat.le_of_ble_eq_true rfl) rfl ?_
    refine v_aload_n dX11_reckoner_40 rfl ?_
    refine v_aload_n dX11_reckoner_41 rfl ?_
    refine v_getM dX11_reckoner_42 fl_RX11_23 rfl ?_
    rw [show (setI τ1 1 1 0).2.2 0 2 = r' from g02]
    refine v_putM dX11_reckoner_45 fp_RX11_19 rfl rfl ?_
    refine v_aload_n dX11_reckoner_48 rfl ?_
    refine v_aload_n dX11_reckoner_49 rfl ?_
    refine v_putM dX11_reckoner_50 fp_RX11_23 rfl rfl ?_
    refine v_aload_n dX11_reckoner_53 rfl ?_
    refine v_getR (q := 13) dX11_reckoner_54 fl_RX11_29 rfl rfl ?_
    refine v_iconst dX11_reckoner_57 ?_
    refine v_putI dX11_reckoner_58 fp_RX11_114 rfl ?_
    refine v_aload_n dX11_reckoner_61 rfl ?_
    refine v_getR (q := 13) dX11_reckoner_62 fl_RX11_29 rfl rfl ?_
    refine v_iconst dX11_reckoner_65 ?_
    refine v_putI dX11_reckoner_66 fp_RX11_117 rfl ?_
    refine v_aload_n dX11_reckoner_69 rfl ?_
    refine v_getR (q := 13) dX11_reckoner_70 fl_RX11_29 rfl rfl ?_
    refine v_iconst dX11_reckoner_73 ?_
    refine v_putI dX11_reckoner_74 fp_RX11_120 rfl ?_
    refine v_aload_n dX11_reckoner_77 rfl ?_
    refine v_getR (q := 19) dX11_reckoner_78 fl_RX11_42 rfl rfl ?_
    refine v_iconst dX11_reckoner_81 ?_
    refine v_putI dX11_reckoner_82 fp_RX11_123 rfl ?_
    refine v_aload_n dX11_reckoner_85 rfl ?_
    refine v_getR (q := 15) dX11_reckoner_86 fl_RX11_33 rfl rfl ?_
    refine v_iconst dX11_reckoner_89 ?_
    refine v_putZ dX11_reckoner_90 fp_RX11_124 rfl (by first | exact Or.inl rfl | exact Or.inr rfl) ?_
    refine v_aload_n dX11_reckoner_93 rfl ?_
    refine v_getR (q := 17) dX11_reckoner_94 fl_RX11_36 rfl rfl ?_
    refine v_iconst dX11_reckoner_97 ?_
    refine v_putZ dX11_reckoner_98 fp_RX11_124 rfl (by first | exact Or.inl rfl | exact Or.inr rfl) ?_
    refine v_aload_n dX11_reckoner_101 rfl ?_
    refine v_callV0 dX11_reckoner_102 mv_RX11_128 rfl rfl (Nat.le_of_ble_eq_true rfl) ?_
    refine ok_stateChanged ?_
    unfold wChg
    obtain ⟨τ2, hτ2⟩ : ∃ τ2, τ2 = setI (setI (setI (setI (setI (setI (setI (setI (setI (setI (setR (setR (setI τ1 1 1 0) 0 1 r') 0 2 r) 13 0 0) 13 1 0) 13 3 0) 19 2 0) 15 4 0) 17 4 0) 26 5 0) 22 4 0) 26 6 0) 30 5 0 := ⟨_, rfl⟩
    rw [← hτ2]
    have hk : ∀ a b, ¬ ((a = 1 ∧ b = 1) ∨ (a = 13 ∧ (b = 0 ∨ b = 1 ∨ b = 3)) ∨ (a = 19 ∧ b = 2) ∨ ((a = 15 ∨ a = 17) ∧ b = 4) ∨ (a = 26 ∧ (b = 5 ∨ b = 6)) ∨ (a = 22 ∧ b = 4) ∨ (a = 30 ∧ b = 5)) → τ2.1 a b = τ1.1 a b := fun a b h => by
      rw [hτ2, setI_ne (by omega), setI_ne (by omega), setI_ne (by omega), setI_ne (by omega), setI_ne (by omega), setI_ne (by omega), setI_ne (by omega), setI_ne (by omega), setI_ne (by omega), setI_ne (by omega)]
      show (setI τ1 1 1 0).1 a b = _
      rw [setI_ne (by omega)]
    have hm1 : τ2.2.2 0 1 = r' := by
      rw [hτ2]
      show (setR (setR (setI τ1 1 1 0) 0 1 r') 0 2 r).2.2 0 1 = r'
      rw [setR_ne (by omega), setR_same]
    have hm2 : τ2.2.2 0 2 = r := by
      rw [hτ2]
      show (setR (setR (setI τ1 1 1 0) 0 1 r') 0 2 r).2.2 0 2 = r
      rw [setR_same]
    have hR2 : RepR τ2 r' R := q3.kept (fun a b h1 h2 => hk a b (by omega))
    show V _ _ _ _ _ _ _
    refine v_aload_n dX11_reckoner_105 rfl ?_
    refine v_getM dX11_reckoner_106 fl_RX11_19 rfl ?_
    rw [hm1]
    refine v_getI dX11_reckoner_109 fl_RX11_131 hr'.lay ?_
    rw [hR2.2.2.2.1]
    refine v_ireturn dX11_reckoner_112 rfl (rfl) ?_
    refine hQ1 τ2 R q1 (fun a b h => by rw [hk a b (by omega)]; exact q2.1 a b (by omega)) hm1 hm2 (fun p hp => ?_) (by rw [hτ2]; show τ1.2.1 = _; rw [q2.2]) ?_ (by rw [hk _ _ (by omega)]; exact q4) hR2 ?_ ?_ ?_ ?_ ?_ ?_ ⟨?_, ?_, ?_, ?_⟩
    · funext b
      rw [hτ2]
      show (setR (setR (setI τ1 1 1 0) 0 1 r') 0 2 r).2.2 p b = _
      rw [setR_ne (by omega), setR_ne (by omega)]
      show τ1.2.2 p b = _
      rw [q2.2]
    · rw [hτ2, setI_ne (by omega), setI_ne (by omega), setI_ne (by omega), setI_ne (by omega), setI_ne (by omega), setI_ne (by omega), setI_ne (by omega), setI_ne (by omega), setI_ne (by omega), setI_ne (by omega)]
      show (setI τ1 1 1 0).1 1 1 = 0
      rw [setI_same]
    · rw [hτ2, setI_ne (by omega), setI_ne (by omega), setI_ne (by omega), setI_ne (by omega), setI_ne (by omega), setI_ne (by omega), setI_ne (by omega), setI_ne (by omega), setI_ne (by omega), setI_same]
    · rw [hτ2, setI_ne (by omega), setI_ne (by omega), setI_ne (by omega), setI_ne (by omega), setI_ne (by omega), setI_ne (by omega), setI_ne (by omega), setI_ne (by omega), setI_same]
    · rw [hτ2, setI_ne (by omega), setI_ne (by omega), setI_ne (by omega), setI_ne (by omega), setI_ne (by omega), setI_ne (by omega), setI_ne (by omega), setI_same]
    · rw [hτ2, setI_ne (by omega), setI_ne (by omega), setI_ne (by omega), setI_ne (by omega), setI_ne (by omega), setI_ne (by omega), setI_same]
    · rw [hτ2, setI_ne (by omega), setI_ne (by omega), setI_ne (by omega), setI_ne (by omega), setI_ne (by omega), setI_same]
    · rw [hτ2, setI_ne (by omega), setI_ne (by omega), setI_ne (by omega), setI_ne (by omega), setI_same]
    · rw [hτ2, setI_ne (by omega), setI_ne (by omega), setI_ne (by omega), setI_same]
    · rw [hτ2, setI_ne (by omega), setI_same]
    · rw [hτ2, setI_ne (by omega), setI_ne (by omega), setI_same]
    · rw [hτ2, setI_same]
  · obtain ⟨-, f, q1, q2, q3, q4⟩ := e1.resolve_right (fun h => by rw [h.1] at zc21; exact absurd zc21 (by decide))
    refine v_bipush dX11_reckoner_24 ?_
    refine v_aload_n dX11_reckoner_26 rfl ?_
    refine v_getR (q := 1) dX11_reckoner_27 fl_RX11_12 rfl rfl ?_
    refine v_getI dX11_reckoner_30 fl_RX11_111 rfl ?_
    rw [setI_ne (by omega), q3]
    refine v_isub dX11_reckoner_33 ?_
    refine v_ireturn dX11_reckoner_34 rfl (rfl) ?_
    exact hQ0 _ f q1 (fun a b h => by rw [setI_ne (by omega)]; exact q2.1 a b (by omega)) q2.2 setI_same (by rw [setI_ne (by omega)]; exact q4)
end CRK
