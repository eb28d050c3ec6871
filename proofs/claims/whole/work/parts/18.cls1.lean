/-! ===== the class: calls that are plain ===== -/
section C1
variable {D : Nat} {σ : Wd} {Q : Option Value → Wd → Prop} {r : Nat} {R : Rk}
theorem ok_isKey {x : Int32} {n : Nat} (hr : vIsR r) (hrk : σ.2.2 0 1 = r) (h4 : σ.1 r 4 = nI n) (hn : n ≤ 9) (hQ : Q (some (.int (if 0 ≤ x.toInt ∧ x.toInt < n then 1 else 0))) σ) : Ok D mX11_isKey [.ref 0, .int x] σ Q := by
  have hT : (nI n).toInt = n := nI_toInt (by omega)
  refine ok_enter rfl (Nat.le_of_ble_eq_true rfl) ?_
  refine v_iload_n dX11_isKey_0 rfl ?_
  refine v_if_lt dX11_isKey_1 (fun zc1 => ?_) (fun zc1 => ?_)
  · rw [iz_ltI, iz_T0] at zc1
    refine v_iconst dX11_isKey_19 ?_
    refine v_ireturn dX11_isKey_20 rfl (rfl) ?_
    first | (rw [if_pos (by omega)] at hQ; exact hQ) | (rw [if_neg (by omega)] at hQ; exact hQ)
  · rw [iz_ltI, iz_T0] at zc1
    refine v_iload_n dX11_isKey_4 rfl ?_
    refine v_aload_n dX11_isKey_5 rfl ?_
    refine v_getM dX11_isKey_6 fl_RX11_19 rfl ?_
    rw [hrk]
    refine v_getI dX11_isKey_9 fl_RX11_146 hr.lay ?_
    rw [h4]
    refine v_icmp_ge dX11_isKey_12 (fun zc12 => ?_) (fun zc12 => ?_)
    · rw [iz_leI, hT] at zc12
      refine v_iconst dX11_isKey_19 ?_
      refine v_ireturn dX11_isKey_20 rfl (rfl) ?_
      first | (rw [if_pos (by omega)] at hQ; exact hQ) | (rw [if_neg (by omega)] at hQ; exact hQ)
    · rw [iz_leI, hT] at zc12
      refine v_iconst dX11_isKey_15 ?_
      refine v_goto dX11_isKey_16 ?_
      refine v_ireturn dX11_isKey_20 rfl (rfl) ?_
      first | (rw [if_pos (by omega)] at hQ; exact hQ) | (rw [if_neg (by omega)] at hQ; exact hQ)
theorem ok_isOnDial {x : Int32} {m : Nat} (hr : vIsR r) (hrk : σ.2.2 0 1 = r) (h3 : σ.1 r 3 = nI m) (hm : m ≤ 100) (hQ : Q (some (.int (if 0 ≤ x.toInt ∧ x.toInt < m then 1 else 0))) σ) : Ok D mX11_isOnDial [.ref 0, .int x] σ Q := by
  have hT : (nI m).toInt = m := nI_toInt (by omega)
  refine ok_enter rfl (Nat.le_of_ble_eq_true rfl) ?_
  refine v_iload_n dX11_isOnDial_0 rfl ?_
  refine v_if_lt dX11_isOnDial_1 (fun zc1 => ?_) (fun zc1 => ?_)
  · rw [iz_ltI, iz_T0] at zc1
    refine v_iconst dX11_isOnDial_19 ?_
    refine v_ireturn dX11_isOnDial_20 rfl (rfl) ?_
    first | (rw [if_pos (by omega)] at hQ; exact hQ) | (rw [if_neg (by omega)] at hQ; exact hQ)
  · rw [iz_ltI, iz_T0] at zc1
    refine v_iload_n dX11_isOnDial_4 rfl ?_
    refine v_aload_n dX11_isOnDial_5 rfl ?_
    refine v_getM dX11_isOnDial_6 fl_RX11_19 rfl ?_
    rw [hrk]
    refine v_getI dX11_isOnDial_9 fl_RX11_131 hr.lay ?_
    rw [h3]
    refine v_icmp_ge dX11_isOnDial_12 (fun zc12 => ?_) (fun zc12 => ?_)
    · rw [iz_leI, hT] at zc12
      refine v_iconst dX11_isOnDial_19 ?_
      refine v_ireturn dX11_isOnDial_20 rfl (rfl) ?_
      first | (rw [if_pos (by omega)] at hQ; exact hQ) | (rw [if_neg (by omega)] at hQ; exact hQ)
    · rw [iz_leI, hT] at zc12
      refine v_iconst dX11_isOnDial_15 ?_
      refine v_goto dX11_isOnDial_16 ?_
      refine v_ireturn dX11_isOnDial_20 rfl (rfl) ?_
      first | (rw [if_pos (by omega)] at hQ; exact hQ) | (rw [if_neg (by omega)] at hQ; exact hQ)
theorem ok_imageAt {x : Int32} (hQ : Q (some (if x = 0 then .ref 15 else if x = 1 then .ref 17 else .null)) σ) : Ok D mX11_imageAt [.ref 0, .int x] σ Q := by
  refine ok_enter rfl (Nat.le_of_ble_eq_true rfl) ?_
  refine v_iload_n dX11_imageAt_0 rfl ?_
  refine v_if_ne dX11_imageAt_1 (fun zc1 => ?_) (fun zc1 => ?_)
  · refine v_iload_n dX11_imageAt_9 rfl ?_
    refine v_iconst dX11_imageAt_10 ?_
    refine v_icmp_ne dX11_imageAt_11 (fun zc11 => ?_) (fun zc11 => ?_)
    · refine v_null dX11_imageAt_21 ?_
      refine v_areturn dX11_imageAt_22 rfl (by first | exact Or.inl rfl | exact Or.inr ⟨_, rfl⟩) ?_
      first | (rw [if_pos (by assumption)] at hQ; exact hQ) | (rw [if_neg (by assumption), if_pos (by assumption)] at hQ; exact hQ) | (rw [if_neg (by assumption), if_neg (by assumption)] at hQ; exact hQ)
    · refine v_aload_n dX11_imageAt_14 rfl ?_
      refine v_getR (q := 17) dX11_imageAt_15 fl_RX11_36 rfl rfl ?_
      refine v_goto dX11_imageAt_18 ?_
      refine v_areturn dX11_imageAt_22 rfl (by first | exact Or.inl rfl | exact Or.inr ⟨_, rfl⟩) ?_
      first | (rw [if_pos (by assumption)] at hQ; exact hQ) | (rw [if_neg (by assumption), if_pos (by assumption)] at hQ; exact hQ) | (rw [if_neg (by assumption), if_neg (by assumption)] at hQ; exact hQ)
  · refine v_aload_n dX11_imageAt_4 rfl ?_
    refine v_getR (q := 15) dX11_imageAt_5 fl_RX11_33 rfl rfl ?_
    refine v_areturn dX11_imageAt_8 rfl (by first | exact Or.inl rfl | exact Or.inr ⟨_, rfl⟩) ?_
    first | (rw [if_pos (by assumption)] at hQ; exact hQ) | (rw [if_neg (by assumption), if_pos (by assumption)] at hQ; exact hQ) | (rw [if_neg (by assumption), if_neg (by assumption)] at hQ; exact hQ)
theorem ok_forgetSteps (hQ : Q none (setI (setI σ 26 5 0) 22 4 0)) : Ok D mX8_forgetSteps [.ref 26] σ Q := by
  refine ok_enter rfl (Nat.le_of_ble_eq_true rfl) ?_
  refine v_aload_n dX8_forgetSteps_0 rfl ?_
  refine v_iconst dX8_forgetSteps_1 ?_
  refine v_putZ dX8_forgetSteps_2 fp_RX8_25 rfl (by first | exact Or.inl rfl | exact Or.inr rfl) ?_
  refine v_aload_n dX8_forgetSteps_5 rfl ?_
  refine v_getR (q := 22) dX8_forgetSteps_6 fl_RX8_41 rfl rfl ?_
  refine v_iconst dX8_forgetSteps_9 ?_
  refine v_putI dX8_forgetSteps_10 fp_RX8_47 rfl ?_
  refine v_return dX8_forgetSteps_13 rfl ?_
  exact hQ
theorem ok_forgetMore (hQ : Q none (setI σ 26 6 0)) : Ok D mX8_forgetMore [.ref 26] σ Q := by
  refine ok_enter rfl (Nat.le_of_ble_eq_true rfl) ?_
  refine v_aload_n dX8_forgetMore_0 rfl ?_
  refine v_iconst dX8_forgetMore_1 ?_
  refine v_putZ dX8_forgetMore_2 fp_RX8_29 rfl (by first | exact Or.inl rfl | exact Or.inr rfl) ?_
  refine v_return dX8_forgetMore_5 rfl ?_
  exact hQ
def wChg (σ : Wd) : Wd := setI (setI (setI (setI σ 26 5 0) 22 4 0) 26 6 0) 30 5 0
theorem ok_stateChanged (hQ : Q none (wChg σ)) : Ok (D + 1) mX11_stateChanged [.ref 0] σ Q := by
  refine ok_enter rfl (Nat.le_of_ble_eq_true rfl) ?_
  refine v_aload_n dX11_stateChanged_0 rfl ?_
  refine v_getR (q := 26) dX11_stateChanged_1 fl_RX11_58 rfl rfl ?_
  refine v_callV0 dX11_stateChanged_4 mv_RX11_294 rfl rfl (Nat.le_of_ble_eq_true rfl) ?_
  refine ok_forgetSteps ?_
  show V _ _ _ _ _ _ _
  refine v_aload_n dX11_stateChanged_7 rfl ?_
  refine v_getR (q := 26) dX11_stateChanged_8 fl_RX11_58 rfl rfl ?_
  refine v_callV0 dX11_stateChanged_11 mv_RX11_216 rfl rfl (Nat.le_of_ble_eq_true rfl) ?_
  refine ok_forgetMore ?_
  show V _ _ _ _ _ _ _
  refine v_aload_n dX11_stateChanged_14 rfl ?_
  refine v_getR (q := 30) dX11_stateChanged_15 fl_RX11_65 rfl rfl ?_
  refine v_iconst dX11_stateChanged_18 ?_
  refine v_putZ dX11_stateChanged_19 fp_RX11_297 rfl (by first | exact Or.inl rfl | exact Or.inr rfl) ?_
  refine v_return dX11_stateChanged_22 rfl ?_
  exact hQ
theorem ok_to {x : Int32} (hQ : Q (some (.int (vAt σ 27 100 x))) σ) : Ok (D + 1) mX8_to [.ref 26, .int x] σ Q := by
  refine ok_enter rfl (Nat.le_of_ble_eq_true rfl) ?_
  refine v_aload_n dX8_to_0 rfl ?_
  refine v_getR (q := 27) dX8_to_1 fl_RX8_9 rfl rfl ?_
  refine v_iload_n dX8_to_4 rfl ?_
  refine v_callS2 dX8_to_5 ms_RX8_68 (Nat.le_of_ble_eq_true rfl) ?_
  refine ok_at rfl (by decide) ?_
  show V _ _ _ _ (_ :: _) _ _
  refine v_ireturn dX8_to_8 rfl (rfl) ?_
  exact hQ
/-! the book -/
def RepB (σ : Wd) (es : List (Nat × Nat)) : Prop := σ.1 19 2 = nI es.length ∧ ∀ (i : Nat) (e : Nat × Nat), es[i]? = some e → σ.1 20 i = nI e.1 ∧ σ.1 21 i = nI e.2
def vB (m n : Nat) (es : List (Nat × Nat)) : Prop := es.length ≤ 40 ∧ ∀ e ∈ es, e.1 < n ∧ e.2 < m
theorem ok_bookAppend {c : Nat} {x y : Int32} (hc : σ.1 19 2 = nI c) (hl : c < 40) (hQ : Q none (setI (setI (setI σ 20 c x) 21 c y) 19 2 (nI (c + 1)))) : Ok D mX0_append [.ref 19, .int x, .int y] σ Q := by
  refine ok_enter rfl (Nat.le_of_ble_eq_true rfl) ?_
  refine v_aload_n dX0_append_0 rfl ?_
  refine v_getI dX0_append_1 fl_RX0_18 rfl ?_
  rw [hc]
  refine v_if_lt dX0_append_4 (fun zc4 => ?_) (fun zc4 => ?_)
  · exact absurd zc4 (nI_pos (by omega))
  · refine v_aload_n dX0_append_7 rfl ?_
    refine v_getI dX0_append_8 fl_RX0_18 rfl ?_
    rw [hc]
    refine v_bipush dX0_append_11 ?_
    refine v_icmp_ge dX0_append_13 (fun zc13 => ?_) (fun zc13 => ?_)
    · exact absurd zc13 (nI_ge (b := 40) (by omega) (by omega))
    · refine v_aload_n dX0_append_16 rfl ?_
      refine v_getR (q := 20) dX0_append_17 fl_RX0_9 rfl rfl ?_
      refine v_aload_n dX0_append_20 rfl ?_
      refine v_getI dX0_append_21 fl_RX0_18 rfl ?_
      rw [hc]
      refine v_iload_n dX0_append_24 rfl ?_
      refine v_iastore dX0_append_25 rfl (by exact vp_in_nI (by omega) (by omega)) ?_
      rw [nI_clamp (by omega)]
      refine v_aload_n dX0_append_26 rfl ?_
      refine v_getR (q := 21) dX0_append_27 fl_RX0_15 rfl rfl ?_
      refine v_aload_n dX0_append_30 rfl ?_
      refine v_getI dX0_append_31 fl_RX0_18 rfl ?_
      rw [setI_ne (by omega), hc]
      refine v_iload_n dX0_append_34 rfl ?_
      refine v_iastore dX0_append_35 rfl (by exact vp_in_nI (by omega) (by omega)) ?_
      rw [nI_clamp (by omega)]
      refine v_aload_n dX0_append_36 rfl ?_
      refine v_dup dX0_append_37 rfl ?_
      refine v_getI dX0_append_38 fl_RX0_18 rfl ?_
      rw [setI_ne (by omega), setI_ne (by omega), hc]
      refine v_iconst dX0_append_41 ?_
      refine v_iadd dX0_append_42 ?_
      refine v_putI dX0_append_43 fp_RX0_18 rfl ?_
      refine v_return dX0_append_46 rfl ?_
      rw [nI_1]
      exact hQ
theorem repB_add {es : List (Nat × Nat)} {k v c : Nat} (hc : es.length = c) (h : RepB σ es) : RepB (setI (setI (setI σ 20 c (nI k)) 21 c (nI v)) 19 2 (nI (c + 1))) (es ++ [(k, v)]) := by
  refine ⟨by simp [setI_get, hc], fun i e hi => ?_⟩
  by_cases hlt : i < c
  · rw [List.getElem?_append_left (by omega)] at hi
    have h6 := h.2 i e hi
    simp [setI_get, show ¬ i = c by omega]
    exact h6
  · rw [List.getElem?_append_right (by omega)] at hi
    have hz : i - es.length = 0 := by
      rcases Nat.eq_zero_or_pos (i - es.length) with h | h
      · exact h
      · rw [List.getElem?_eq_none (by simp; omega)] at hi; cases hi
    rw [hz] at hi
    have e1 : (k, v) = e := by simpa using hi
    have e2 : i = c := by omega
    subst e1; subst e2
    simp [setI_get]
def bWrong (R : Rk) : St → List (Nat × Nat) → Nat → Int
  | _, [], _ => -1
  | s, e :: es, i => if (rk_str R s (R.2.2.2.2.getD e.1 (0, 0, 0, 0))).1 = e.2 then bWrong R (rk_str R s (R.2.2.2.2.getD e.1 (0, 0, 0, 0))) es (i + 1) else i
theorem ok_firstWrong {s : St} {n : Nat} {es : List (Nat × Nat)} (hr : vIsR r) (hR : RepR σ r R) (hn : n ≤ 9) (hv : vR n R) (hm2 : R.2.2.2.1 ≤ 100) (hs : vS R.2.2.2.1 s) (hB : RepB σ es) (hb : vB R.2.2.2.1 R.2.2.2.2.length es) (hQ : Q (some (.int (iz (bWrong R s es 0)))) σ) : Ok (D + 4) mX0_firstWrong [.ref 19, .ref r, .int (nI (ps s))] σ Q := by
  obtain ⟨b1, b2⟩ := hb
  obtain ⟨c1, c2⟩ := hB
  have loop : ∀ j i (t : St), i + j = es.length → vS R.2.2.2.1 t → bWrong R s es 0 = bWrong R t (es.drop i) i → ∀ x2 : Int32, V mX0_firstWrong (D + 4) 5 [some (.ref 19), some (.ref r), some (.int x2), some (.int (nI (ps t))), some (.int (nI i))] [] σ Q := by
    intro j
    induction j with
    | zero =>
      intro i t hi ht he x2
      rw [List.drop_of_length_le (by omega)] at he
      rw [he] at hQ
      refine v_iload dX0_firstWrong_5 rfl ?_
      refine v_aload_n dX0_firstWrong_7 rfl ?_
      refine v_getI dX0_firstWrong_8 fl_RX0_18 rfl ?_
      rw [c1]
      refine v_icmp_ge dX0_firstWrong_11 (fun zc11 => ?_) (fun zc11 => ?_)
      · refine v_iconst dX0_firstWrong_54 ?_
        refine v_ireturn dX0_firstWrong_55 rfl (rfl) ?_
        exact hQ
      · exact absurd (nI_le (by omega) (by omega)) zc11
    | succ j ih =>
      intro i t hi ht he x2
      obtain ⟨e, hk⟩ : ∃ e, es[i]? = some e := ⟨_, List.getElem?_eq_getElem (by omega)⟩
      obtain ⟨a1, a2⟩ := c2 i e hk
      obtain ⟨d1, d2⟩ := b2 e (List.mem_of_getElem? hk)
      obtain ⟨k, hkk⟩ : ∃ k, R.2.2.2.2[e.1]? = some k := ⟨_, List.getElem?_eq_getElem (by omega)⟩
      have hkd : R.2.2.2.2.getD e.1 (0, 0, 0, 0) = k := by rw [List.getD, hkk]; rfl
      have hsv := rk_str_v hv (List.mem_of_getElem? hkk) ht
      have hdr : es.drop i = e :: es.drop (i + 1) := by
        have h5 := List.drop_eq_getElem_cons (l := es) (i := i) (by omega)
        have h6 : es[i] = e := by
          have := List.getElem?_eq_some_iff.mp hk
          exact this.2
        rw [h5, h6]
      have he2 : bWrong R s es 0 = if (rk_str R t k).1 = e.2 then bWrong R (rk_str R t k) (es.drop (i + 1)) (i + 1) else i := by
        rw [he, hdr]
        show (if (rk_str R t (R.2.2.2.2.getD e.1 (0, 0, 0, 0))).1 = e.2 then _ else _) = _
        rw [hkd]
      obtain ⟨s1, s2, s3, s4, s5⟩ := id hsv
      refine v_iload dX0_firstWrong_5 rfl ?_
      refine v_aload_n dX0_firstWrong_7 rfl ?_
      refine v_getI dX0_firstWrong_8 fl_RX0_18 rfl ?_
      rw [c1]
      refine v_icmp_ge dX0_firstWrong_11 (fun zc11 => ?_) (fun zc11 => ?_)
      · exact absurd zc11 (nI_ge (by omega) (by omega))
      · refine v_aload_n dX0_firstWrong_14 rfl ?_
        refine v_iload_n dX0_firstWrong_15 rfl ?_
        refine v_aload_n dX0_firstWrong_16 rfl ?_
        refine v_getR (q := 20) dX0_firstWrong_17 fl_RX0_9 rfl rfl ?_
        refine v_iload dX0_firstWrong_20 rfl ?_
        refine v_callS2 dX0_firstWrong_22 ms_RX0_22 (Nat.le_of_ble_eq_true rfl) ?_
        refine ok_at rfl (by decide) ?_
        rw [vAt_nI (by omega) (by omega), a1]
        show V _ _ _ _ (_ :: _) _ _
        refine v_callV2 dX0_firstWrong_25 mv_RX0_26 hr.lay rfl (Nat.le_of_ble_eq_true rfl) ?_
        refine ok_afterStroke hr hR hn hv ht hkk ?_
        show V _ _ _ _ (_ :: _) _ _
        refine v_istore_n dX0_firstWrong_28 (Nat.le_of_ble_eq_true rfl) rfl ?_
        refine v_iload_n dX0_firstWrong_29 rfl ?_
        refine v_callS1 dX0_firstWrong_30 ms_RX0_32 (Nat.le_of_ble_eq_true rfl) ?_
        refine ok_shownIn ?_
        rw [ps_sh hm2 hsv]
        show V _ _ _ _ (_ :: _) _ _
        refine v_aload_n dX0_firstWrong_33 rfl ?_
        refine v_getR (q := 21) dX0_firstWrong_34 fl_RX0_15 rfl rfl ?_
        refine v_iload dX0_firstWrong_37 rfl ?_
        refine v_callS2 dX0_firstWrong_39 ms_RX0_22 (Nat.le_of_ble_eq_true rfl) ?_
        refine ok_at rfl (by decide) ?_
        rw [vAt_nI (by omega) (by omega), a2]
        show V _ _ _ _ (_ :: _) _ _
        refine v_icmp_eq dX0_firstWrong_42 (fun zc42 => ?_) (fun zc42 => ?_)
        · rw [nI_eq (by omega) (by omega)] at zc42
          refine v_iinc dX0_firstWrong_48 rfl (Nat.le_of_ble_eq_true rfl) rfl ?_
          refine v_goto dX0_firstWrong_51 ?_
          rw [nI_1]
          refine ih (i + 1) (rk_str R t k) (by omega) hsv ?_ _
          rw [he2, if_pos zc42]
        · rw [nI_eq (by omega) (by omega)] at zc42
          refine v_iload dX0_firstWrong_45 rfl ?_
          refine v_ireturn dX0_firstWrong_47 rfl (rfl) ?_
          rw [he2, if_neg zc42] at hQ
          rw [iz_nI]
          exact hQ
  refine ok_enter rfl (Nat.le_of_ble_eq_true rfl) ?_
  refine v_iload_n dX0_firstWrong_0 rfl ?_
  refine v_istore_n dX0_firstWrong_1 (Nat.le_of_ble_eq_true rfl) rfl ?_
  refine v_iconst dX0_firstWrong_2 ?_
  refine v_istore dX0_firstWrong_3 (Nat.le_of_ble_eq_true rfl) rfl ?_
  exact loop es.length 0 s (by omega) hs rfl _
end C1
