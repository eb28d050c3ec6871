/-! ===== plain calls of the reference ===== -/
def wM3 (σ : Wd) (x : St × Int32 × Nat) : Wd := setL (setI (putS σ x.1) 44 25 x.2.1) 44 26 (lN x.2.2)
def RepMB (σ : Wd) (es : List (Nat × Nat)) : Prop := σ.1 44 29 = nI es.length ∧ ∀ (i : Nat) (e : Nat × Nat), es[i]? = some e → σ.1 49 (2 * i) = nI e.1 ∧ σ.1 49 (2 * i + 1) = nI e.2
def zS (m : Nat) (s : St) : Prop := m = 0 → s = (0, 0, 0, 0)
section MP1
variable {D : Nat} {σ τ : Wd} {Q : Option Value → Wd → Prop} {R : Rk} {s : St} {r n : Nat}
theorem ok_setStateP {m : Nat} (h3 : σ.1 44 3 = nI m) (hm2 : m ≤ 100) (hs : vS m s) (hz : zS m s) (hQ : Q none (putS σ s)) : Ok D mX12_setState [.ref 44, .int (nI (mc m s))] σ Q := by
  rcases Nat.eq_zero_or_pos m with h | h
  · subst h
    have e := hz rfl
    subst e
    exact ok_setState0 h3 hQ
  · have h1 := mc_lt h hs.w
    have h2 := mm_le hm2
    refine ok_setState h3 h hm2 (by omega) ?_
    rw [mdec_mc h hs.w]
    exact hQ
theorem ok_mstrike {x : Int32} (hP : MP σ R s) (hun : ¬ (0 ≤ x.toInt ∧ x.toInt < R.2.2.2.2.length) → Q (some (.int UNK)) σ) (hQ : 0 ≤ x.toInt ∧ x.toInt < R.2.2.2.2.length → Q (some (.int (nI (nx R s x.toInt.toNat).1))) (setI (putS σ (nx R s x.toInt.toNat)) 44 25 (σ.1 44 25 + nI (R.2.2.2.2.getD x.toInt.toNat (0, 0, 0, 0)).2.1))) : Ok (D + 3) mX12_strike [.ref 44, .int x] σ Q := by
  obtain ⟨hM, h4, hv, hS, hs⟩ := id hP
  have hnk := hv.n9
  refine ok_enter rfl (Nat.le_of_ble_eq_true rfl) ?_
  refine v_iload_n dX12_strike_0 rfl ?_
  refine v_iconst dX12_strike_1 ?_
  refine v_aload_n dX12_strike_2 rfl ?_
  refine v_getI dX12_strike_3 fl_RX12_182 rfl ?_
  rw [h4]
  refine v_iconst dX12_strike_6 ?_
  refine v_isub dX12_strike_7 ?_
  rw [show nI R.2.2.2.2.length - 1 = iz ((R.2.2.2.2.length : Int) - 1) by rw [iz_nI, show (1 : Int32) = iz 1 from rfl, iz_sub]]
  refine v_callS3 dX12_strike_8 ms_RX12_68 (Nat.le_of_ble_eq_true rfl) ?_
  refine ok_in ?_
  rw [iz_T0, iz_toInt (by omega) (by omega)]
  simp only [inK]
  show V _ _ _ _ (_ :: _) _ _
  refine v_if_ne dX12_strike_11 (fun zc11 => ?_) (fun zc11 => ?_)
  · have hx := if10 zc11
    have hky : R.2.2.2.2[x.toInt.toNat]? = some (R.2.2.2.2.getD x.toInt.toNat (0, 0, 0, 0)) := by rw [List.getD, List.getElem?_eq_getElem (by omega)]; rfl
    have hq := hQ hx
    obtain ⟨a1, a2, a3, a4⟩ := hM.cells hky (by rw [h4]; exact nI_lt (by omega) (by omega))
    have ex : (4 : Int32) * x + 1 = nI (4 * x.toInt.toNat + 1) := by
      conv => lhs; rw [x_nI hx.1]
      rw [show (4 : Int32) = nI 4 from rfl, pk_mul, nI_1]
    refine v_aload_n dX12_strike_17 rfl ?_
    refine v_iload_n dX12_strike_18 rfl ?_
    refine v_callV1 dX12_strike_19 mv_RX12_226 rfl rfl (Nat.le_of_ble_eq_true rfl) ?_
    rw [show (Value.int x) = .int (nI x.toInt.toNat) by rw [← x_nI hx.1]]
    refine ok_doStroke hM (show 8 ≤ 9 by decide) hv hS hs.w hky ?_
    rw [← x_nI hx.1, show rk_str R s (R.2.2.2.2.getD x.toInt.toNat (0, 0, 0, 0)) = nx R s x.toInt.toNat from rfl]
    show V _ _ _ _ _ _ _
    refine v_aload_n dX12_strike_22 rfl ?_
    refine v_dup dX12_strike_23 rfl ?_
    refine v_getI dX12_strike_24 fl_RX12_188 rfl ?_
    rw [putS_o (by omega)]
    refine v_aload_n dX12_strike_27 rfl ?_
    refine v_getR (q := 45) dX12_strike_28 fl_RX12_13 rfl rfl ?_
    refine v_iconst dX12_strike_31 ?_
    refine v_iload_n dX12_strike_32 rfl ?_
    refine v_imul dX12_strike_33 ?_
    refine v_iconst dX12_strike_34 ?_
    refine v_iadd dX12_strike_35 ?_
    rw [ex]
    refine v_iaload dX12_strike_36 rfl (by exact vp_in_nI (by omega) (by omega)) ?_
    rw [nI_clamp (by omega), putS_o (by omega), a2]
    refine v_iadd dX12_strike_37 ?_
    refine v_putI dX12_strike_38 fp_RX12_188 rfl ?_
    refine v_aload_n dX12_strike_41 rfl ?_
    refine v_getI dX12_strike_42 fl_RX12_197 rfl ?_
    rw [setI_ne (by omega), putS_rep.1]
    refine v_ireturn dX12_strike_45 rfl (rfl) ?_
    exact hq
  · refine v_ldc dX12_strike_14 cn_RX12_210 ?_
    refine v_ireturn dX12_strike_16 rfl (rfl) ?_
    exact hun (if01 zc11)
theorem ok_mbegin (hP : MP σ R s) (hQ : Q (some (.int (nI s.1))) (putS σ (0, 0, 0, 0))) : Ok (D + 1) mX12_begin [.ref 44] σ Q := by
  obtain ⟨hM, h4, hv, hS, hs⟩ := id hP
  refine ok_enter rfl (Nat.le_of_ble_eq_true rfl) ?_
  refine v_aload_n dX12_begin_0 rfl ?_
  refine v_getI dX12_begin_1 fl_RX12_197 rfl ?_
  rw [hS.1]
  refine v_istore_n dX12_begin_4 (Nat.le_of_ble_eq_true rfl) rfl ?_
  refine v_aload_n dX12_begin_5 rfl ?_
  refine v_callV0 dX12_begin_6 mv_RX12_185 rfl rfl (Nat.le_of_ble_eq_true rfl) ?_
  refine ok_start ?_
  show V _ _ _ _ _ _ _
  refine v_iload_n dX12_begin_9 rfl ?_
  refine v_ireturn dX12_begin_10 rfl (rfl) ?_
  exact hQ
theorem ok_mtarget {x : Int32} {c : Nat} (hP : MP σ R s) (hc : σ.1 44 27 = nI c) (hc6 : c ≤ 6) (h1 : ¬ (0 ≤ x.toInt ∧ x.toInt < R.2.2.2.1) → Q (some (.int OUT)) σ) (h2 : 0 ≤ x.toInt ∧ x.toInt < R.2.2.2.1 → c = 6 → Q (some (.int FUL)) σ) (h3 : 0 ≤ x.toInt ∧ x.toInt < R.2.2.2.1 → c < 6 → Q (some (.int (nI (c + 1)))) (setI (setI σ 48 c x) 44 27 (nI (c + 1)))) : Ok (D + 2) mX12_target [.ref 44, .int x] σ Q := by
  obtain ⟨hM, h4, hv, hS, hs⟩ := id hP
  refine ok_enter rfl (Nat.le_of_ble_eq_true rfl) ?_
  refine v_aload_n dX12_target_0 rfl ?_
  refine v_iload_n dX12_target_1 rfl ?_
  refine v_callV1 dX12_target_2 mv_RX12_243 rfl rfl (Nat.le_of_ble_eq_true rfl) ?_
  refine ok_isNumber hM.2.2.2.1 hv.m100 ?_
  show V _ _ _ _ (_ :: _) _ _
  refine v_if_ne dX12_target_5 (fun zc5 => ?_) (fun zc5 => ?_)
  · refine v_aload_n dX12_target_11 rfl ?_
    refine v_getI dX12_target_12 fl_RX12_191 rfl ?_
    rw [hc]
    refine v_bipush dX12_target_15 ?_
    refine v_icmp_ne dX12_target_17 (fun zc17 => ?_) (fun zc17 => ?_)
    · rw [show (6 : Int32) = nI 6 from rfl, nI_eq (by omega) (by omega)] at zc17
      refine v_aload_n dX12_target_23 rfl ?_
      refine v_getR (q := 48) dX12_target_24 fl_RX12_26 rfl rfl ?_
      refine v_aload_n dX12_target_27 rfl ?_
      refine v_getI dX12_target_28 fl_RX12_191 rfl ?_
      rw [hc]
      refine v_iload_n dX12_target_31 rfl ?_
      refine v_iastore dX12_target_32 rfl (by exact vp_in_nI (by omega) (by omega)) ?_
      rw [nI_clamp (by omega)]
      refine v_aload_n dX12_target_33 rfl ?_
      refine v_dup dX12_target_34 rfl ?_
      refine v_getI dX12_target_35 fl_RX12_191 rfl ?_
      rw [setI_ne (by omega), hc]
      refine v_iconst dX12_target_38 ?_
      refine v_iadd dX12_target_39 ?_
      rw [nI_1]
      refine v_putI dX12_target_40 fp_RX12_191 rfl ?_
      refine v_aload_n dX12_target_43 rfl ?_
      refine v_getI dX12_target_44 fl_RX12_191 rfl ?_
      rw [setI_same]
      refine v_ireturn dX12_target_47 rfl (rfl) ?_
      exact h3 (if10 zc5) (by omega)
    · rw [show (6 : Int32) = nI 6 from rfl, nI_eq (by omega) (by omega)] at zc17
      refine v_ldc dX12_target_20 cn_RX12_76 ?_
      refine v_ireturn dX12_target_22 rfl (rfl) ?_
      exact h2 (if10 zc5) zc17
  · refine v_ldc dX12_target_8 cn_RX12_72 ?_
    refine v_ireturn dX12_target_10 rfl (rfl) ?_
    exact h1 (if01 zc5)
theorem ok_mtargetAt {x : Int32} {tg : List Nat} (hc : σ.1 44 27 = nI tg.length) (hc6 : tg.length ≤ 6) (ht : ∀ (i v : Nat), tg[i]? = some v → σ.1 48 i = nI v) (hQ : Q (some (.int (if 0 ≤ x.toInt ∧ x.toInt < tg.length then nI (tg.getD x.toInt.toNat 0) else UNK))) σ) : Ok (D + 1) mX12_targetAt [.ref 44, .int x] σ Q := by
  refine ok_enter rfl (Nat.le_of_ble_eq_true rfl) ?_
  refine v_iload_n dX12_targetAt_0 rfl ?_
  refine v_iconst dX12_targetAt_1 ?_
  refine v_aload_n dX12_targetAt_2 rfl ?_
  refine v_getI dX12_targetAt_3 fl_RX12_191 rfl ?_
  rw [hc]
  refine v_iconst dX12_targetAt_6 ?_
  refine v_isub dX12_targetAt_7 ?_
  rw [show nI tg.length - 1 = iz ((tg.length : Int) - 1) by rw [iz_nI, show (1 : Int32) = iz 1 from rfl, iz_sub]]
  refine v_callS3 dX12_targetAt_8 ms_RX12_68 (Nat.le_of_ble_eq_true rfl) ?_
  refine ok_in ?_
  rw [iz_T0, iz_toInt (by omega) (by omega)]
  simp only [inK]
  show V _ _ _ _ (_ :: _) _ _
  refine v_if_eq dX12_targetAt_11 (fun zc11 => ?_) (fun zc11 => ?_)
  · rw [if_neg (if01 zc11)] at hQ
    refine v_ldc dX12_targetAt_23 cn_RX12_210 ?_
    refine v_ireturn dX12_targetAt_25 rfl (rfl) ?_
    first | exact hQ | (rw [List.getD, List.getElem?_eq_getElem (show x.toInt.toNat < tg.length by omega)] at hQ; exact hQ)
  · rw [if_pos (if10 zc11)] at hQ
    have hx := if10 zc11
    have he := ht x.toInt.toNat _ (by rw [List.getElem?_eq_getElem (show x.toInt.toNat < tg.length by omega)])
    refine v_aload_n dX12_targetAt_14 rfl ?_
    refine v_getR (q := 48) dX12_targetAt_15 fl_RX12_26 rfl rfl ?_
    refine v_iload_n dX12_targetAt_18 rfl ?_
    rw [x_nI hx.1]
    refine v_iaload dX12_targetAt_19 rfl (by exact vp_in_nI (by omega) (by omega)) ?_
    rw [nI_clamp (by omega), he]
    refine v_goto dX12_targetAt_20 ?_
    refine v_ireturn dX12_targetAt_25 rfl (rfl) ?_
    first | exact hQ | (rw [List.getD, List.getElem?_eq_getElem (show x.toInt.toNat < tg.length by omega)] at hQ; exact hQ)
theorem ok_mforget (hQ : Q (some (.int (σ.1 44 27))) (setI σ 44 27 0)) : Ok D mX12_forget [.ref 44] σ Q := by
  refine ok_enter rfl (Nat.le_of_ble_eq_true rfl) ?_
  refine v_aload_n dX12_forget_0 rfl ?_
  refine v_getI dX12_forget_1 fl_RX12_191 rfl ?_
  refine v_istore_n dX12_forget_4 (Nat.le_of_ble_eq_true rfl) rfl ?_
  refine v_aload_n dX12_forget_5 rfl ?_
  refine v_iconst dX12_forget_6 ?_
  refine v_putI dX12_forget_7 fp_RX12_191 rfl ?_
  refine v_iload_n dX12_forget_10 rfl ?_
  refine v_ireturn dX12_forget_11 rfl (rfl) ?_
  exact hQ
theorem ok_mtear (hQ : Q (some (.int (σ.1 44 29))) (setI σ 44 29 0)) : Ok D mX12_tear [.ref 44] σ Q := by
  refine ok_enter rfl (Nat.le_of_ble_eq_true rfl) ?_
  refine v_aload_n dX12_tear_0 rfl ?_
  refine v_getI dX12_tear_1 fl_RX12_194 rfl ?_
  refine v_istore_n dX12_tear_4 (Nat.le_of_ble_eq_true rfl) rfl ?_
  refine v_aload_n dX12_tear_5 rfl ?_
  refine v_iconst dX12_tear_6 ?_
  refine v_putI dX12_tear_7 fp_RX12_194 rfl ?_
  refine v_iload_n dX12_tear_10 rfl ?_
  refine v_ireturn dX12_tear_11 rfl (rfl) ?_
  exact hQ
theorem ok_mwrite {x y : Int32} {c : Nat} (hP : MP σ R s) (hc : σ.1 44 29 = nI c) (hc4 : c ≤ 40) (h0 : ¬ (0 ≤ x.toInt ∧ x.toInt < R.2.2.2.2.length) → Q (some (.int UNK)) σ) (h1 : 0 ≤ x.toInt ∧ x.toInt < R.2.2.2.2.length → ¬ (0 ≤ y.toInt ∧ y.toInt < R.2.2.2.1) → Q (some (.int OUT)) σ) (h2 : 0 ≤ x.toInt ∧ x.toInt < R.2.2.2.2.length → 0 ≤ y.toInt ∧ y.toInt < R.2.2.2.1 → c = 40 → Q (some (.int FUL)) σ) (h3 : 0 ≤ x.toInt ∧ x.toInt < R.2.2.2.2.length → 0 ≤ y.toInt ∧ y.toInt < R.2.2.2.1 → c < 40 → Q (some (.int (nI (c + 1)))) (setI (setI (setI σ 49 (2 * c) x) 49 (2 * c + 1) y) 44 29 (nI (c + 1)))) : Ok (D + 2) mX12_write [.ref 44, .int x, .int y] σ Q := by
  obtain ⟨hM, h4, hv, hS, hs⟩ := id hP
  have hnk := hv.n9
  have e2 : (2 : Int32) * nI c = nI (2 * c) := by rw [show (2 : Int32) = nI 2 from rfl, pk_mul]
  refine ok_enter rfl (Nat.le_of_ble_eq_true rfl) ?_
  refine v_iload_n dX12_write_0 rfl ?_
  refine v_iconst dX12_write_1 ?_
  refine v_aload_n dX12_write_2 rfl ?_
  refine v_getI dX12_write_3 fl_RX12_182 rfl ?_
  rw [h4]
  refine v_iconst dX12_write_6 ?_
  refine v_isub dX12_write_7 ?_
  rw [show nI R.2.2.2.2.length - 1 = iz ((R.2.2.2.2.length : Int) - 1) by rw [iz_nI, show (1 : Int32) = iz 1 from rfl, iz_sub]]
  refine v_callS3 dX12_write_8 ms_RX12_68 (Nat.le_of_ble_eq_true rfl) ?_
  refine ok_in ?_
  rw [iz_T0, iz_toInt (by omega) (by omega)]
  simp only [inK]
  show V _ _ _ _ (_ :: _) _ _
  refine v_if_ne dX12_write_11 (fun zc11 => ?_) (fun zc11 => ?_)
  · refine v_aload_n dX12_write_17 rfl ?_
    refine v_iload_n dX12_write_18 rfl ?_
    refine v_callV1 dX12_write_19 mv_RX12_243 rfl rfl (Nat.le_of_ble_eq_true rfl) ?_
    refine ok_isNumber hM.2.2.2.1 hv.m100 ?_
    show V _ _ _ _ (_ :: _) _ _
    refine v_if_ne dX12_write_22 (fun zc22 => ?_) (fun zc22 => ?_)
    · refine v_aload_n dX12_write_28 rfl ?_
      refine v_getI dX12_write_29 fl_RX12_194 rfl ?_
      rw [hc]
      refine v_bipush dX12_write_32 ?_
      refine v_icmp_ne dX12_write_34 (fun zc34 => ?_) (fun zc34 => ?_)
      · rw [show (40 : Int32) = nI 40 from rfl, nI_eq (by omega) (by omega)] at zc34
        refine v_aload_n dX12_write_40 rfl ?_
        refine v_getR (q := 49) dX12_write_41 fl_RX12_29 rfl rfl ?_
        refine v_iconst dX12_write_44 ?_
        refine v_aload_n dX12_write_45 rfl ?_
        refine v_getI dX12_write_46 fl_RX12_194 rfl ?_
        rw [hc]
        refine v_imul dX12_write_49 ?_
        refine v_iload_n dX12_write_50 rfl ?_
        rw [e2]
        refine v_iastore dX12_write_51 rfl (by exact vp_in_nI (by omega) (by omega)) ?_
        rw [nI_clamp (by omega)]
        refine v_aload_n dX12_write_52 rfl ?_
        refine v_getR (q := 49) dX12_write_53 fl_RX12_29 rfl rfl ?_
        refine v_iconst dX12_write_56 ?_
        refine v_aload_n dX12_write_57 rfl ?_
        refine v_getI dX12_write_58 fl_RX12_194 rfl ?_
        rw [setI_ne (by omega), hc]
        refine v_imul dX12_write_61 ?_
        refine v_iconst dX12_write_62 ?_
        refine v_iadd dX12_write_63 ?_
        refine v_iload_n dX12_write_64 rfl ?_
        rw [e2, nI_1]
        refine v_iastore dX12_write_65 rfl (by exact vp_in_nI (by omega) (by omega)) ?_
        rw [nI_clamp (by omega)]
        refine v_aload_n dX12_write_66 rfl ?_
        refine v_dup dX12_write_67 rfl ?_
        refine v_getI dX12_write_68 fl_RX12_194 rfl ?_
        rw [setI_ne (by omega), setI_ne (by omega), hc]
        refine v_iconst dX12_write_71 ?_
        refine v_iadd dX12_write_72 ?_
        rw [nI_1]
        refine v_putI dX12_write_73 fp_RX12_194 rfl ?_
        refine v_aload_n dX12_write_76 rfl ?_
        refine v_getI dX12_write_77 fl_RX12_194 rfl ?_
        rw [setI_same]
        refine v_ireturn dX12_write_80 rfl (rfl) ?_
        exact h3 (if10 zc11) (if10 zc22) (by omega)
      · rw [show (40 : Int32) = nI 40 from rfl, nI_eq (by omega) (by omega)] at zc34
        refine v_ldc dX12_write_37 cn_RX12_76 ?_
        refine v_ireturn dX12_write_39 rfl (rfl) ?_
        exact h2 (if10 zc11) (if10 zc22) zc34
    · refine v_ldc dX12_write_25 cn_RX12_72 ?_
      refine v_ireturn dX12_write_27 rfl (rfl) ?_
      exact h1 (if10 zc11) (if01 zc22)
  · refine v_ldc dX12_write_14 cn_RX12_210 ?_
    refine v_ireturn dX12_write_16 rfl (rfl) ?_
    exact h0 (if01 zc11)
theorem ok_mseed {x : Int32} {z : Nat} (hz : σ.2.1 44 26 = lN z) (h1 : x.toInt < 0 → Q (some (.int OUT)) σ) (h2 : 0 ≤ x.toInt → Q (some (.int (nI z))) (setL σ 44 26 (lN x.toInt.toNat))) : Ok D mX12_seed [.ref 44, .int x] σ Q := by
  obtain ⟨x1, x2⟩ := iz_rng x
  refine ok_enter rfl (Nat.le_of_ble_eq_true rfl) ?_
  refine v_iload_n dX12_seed_0 rfl ?_
  refine v_if_ge dX12_seed_1 (fun zc1 => ?_) (fun zc1 => ?_)
  · rw [iz_leI, iz_T0] at zc1
    refine v_aload_n dX12_seed_7 rfl ?_
    refine v_getJ dX12_seed_8 fl_RX12_299 rfl ?_
    rw [hz]
    refine v_l2i dX12_seed_11 ?_
    rw [lN_i]
    refine v_istore_n dX12_seed_12 (Nat.le_of_ble_eq_true rfl) rfl ?_
    refine v_aload_n dX12_seed_13 rfl ?_
    refine v_iload_n dX12_seed_14 rfl ?_
    refine v_i2l dX12_seed_15 ?_
    rw [show x.toInt64 = lN x.toInt.toNat by conv => lhs; rw [x_nI zc1, nI_l (by omega)]]
    refine v_putJ dX12_seed_16 fp_RX12_299 rfl ?_
    refine v_iload_n dX12_seed_19 rfl ?_
    refine v_ireturn dX12_seed_20 rfl (rfl) ?_
    exact h2 zc1
  · rw [iz_leI, iz_T0] at zc1
    refine v_ldc dX12_seed_4 cn_RX12_72 ?_
    refine v_ireturn dX12_seed_6 rfl (rfl) ?_
    exact h1 (by omega)
theorem ok_mjudge {es : List (Nat × Nat)} (hP : MP σ R s) (hz : zS R.2.2.2.1 s) (hB : RepMB σ es) (hb : vB R.2.2.2.1 R.2.2.2.2.length es) (hQ : Q (some (.int (iz (bWrong R s es 0)))) σ) : Ok (D + 3) mX12_judge [.ref 44] σ Q := by
  obtain ⟨hM, h4, hv, hS, hs⟩ := id hP
  obtain ⟨b1, b2⟩ := hB
  obtain ⟨b3, b4⟩ := hb
  have hm := hv.m100
  have fin : ∀ (t : St) (f : Int) (lv3 : Option Value), bWrong R s es 0 = f → V mX12_judge (D + 3) 63 [some (.ref 44), some (.int (nI (mc R.2.2.2.1 s))), some (.int (iz f)), lv3] [] (putS σ t) Q := by
    intro t f lv3 hf
    refine v_aload_n dX12_judge_63 rfl ?_
    refine v_iload_n dX12_judge_64 rfl ?_
    refine v_callV1 dX12_judge_65 mv_RX12_223 rfl rfl (Nat.le_of_ble_eq_true rfl) ?_
    refine ok_setStateP (by rw [putS_o (by omega)]; exact hM.2.2.2.1) hm hs hz ?_
    show V _ _ _ _ _ _ _
    refine v_iload_n dX12_judge_68 rfl ?_
    refine v_ireturn dX12_judge_69 rfl (rfl) ?_
    rw [putS_putS, putS_id hS, ← hf]
    exact hQ
  have away : ∀ (t : St) (i : Nat), i < es.length → bWrong R s es 0 = (i : Int) → V mX12_judge (D + 3) 9 [some (.ref 44), some (.int (nI (mc R.2.2.2.1 s))), some (.int (nI i)), some (.int (nI (i + 1)))] [] (putS σ t) Q := by
    intro t i hi hf
    refine v_iload_n dX12_judge_9 rfl ?_
    refine v_aload_n dX12_judge_10 rfl ?_
    refine v_getI dX12_judge_11 fl_RX12_194 rfl ?_
    refine v_icmp_ge dX12_judge_14 (fun zc14 => ?_) (fun zc14 => ?_)
    · rw [iz_nI]
      exact fin _ _ _ hf
    · refine v_iload_n dX12_judge_17 rfl ?_
      refine v_iconst dX12_judge_18 ?_
      refine v_icmp_ne dX12_judge_19 (fun zc19 => ?_) (fun zc19 => ?_)
      · rw [iz_nI]
        exact fin _ _ _ hf
      · exact absurd zc19 (by rw [iz_nI, show (-1 : Int32) = iz (-1) from rfl, iz_eq (by omega) (by omega) (by omega) (by omega)]; omega)
  have loop : ∀ j i (t : St), i + j = es.length → vS R.2.2.2.1 t → bWrong R s es 0 = bWrong R t (es.drop i) i → V mX12_judge (D + 3) 9 [some (.ref 44), some (.int (nI (mc R.2.2.2.1 s))), some (.int (iz (-1))), some (.int (nI i))] [] (putS σ t) Q := by
    intro j
    induction j with
    | zero =>
      intro i t hi ht he
      rw [List.drop_of_length_le (by omega)] at he
      refine v_iload_n dX12_judge_9 rfl ?_
      refine v_aload_n dX12_judge_10 rfl ?_
      refine v_getI dX12_judge_11 fl_RX12_194 rfl ?_
      rw [putS_o (by omega), b1]
      refine v_icmp_ge dX12_judge_14 (fun zc14 => ?_) (fun zc14 => ?_)
      · exact fin _ _ _ he
      · exact absurd zc14 (by rw [nI_leI (by omega) (by omega)]; omega)
    | succ j ih =>
      intro i t hi ht he
      have hil : i < es.length := by omega
      obtain ⟨c1, c2⟩ := b2 i _ (List.getElem?_eq_getElem hil)
      obtain ⟨c3, c4⟩ := b4 _ (List.getElem_mem hil)
      have hky : R.2.2.2.2[es[i].1]? = some (R.2.2.2.2.getD es[i].1 (0, 0, 0, 0)) := by rw [List.getD, List.getElem?_eq_getElem c3]; rfl
      have hnv := nx_v hv c3 ht
      rw [List.drop_eq_getElem_cons hil] at he
      have he2 : bWrong R s es 0 = if (nx R t es[i].1).1 = es[i].2 then bWrong R (nx R t es[i].1) (es.drop (i + 1)) (i + 1) else i := he
      have hsh := hnv.1
      refine v_iload_n dX12_judge_9 rfl ?_
      refine v_aload_n dX12_judge_10 rfl ?_
      refine v_getI dX12_judge_11 fl_RX12_194 rfl ?_
      rw [putS_o (by omega), b1]
      refine v_icmp_ge dX12_judge_14 (fun zc14 => ?_) (fun zc14 => ?_)
      · exact absurd zc14 (by rw [nI_leI (by omega) (by omega)]; omega)
      · refine v_iload_n dX12_judge_17 rfl ?_
        refine v_iconst dX12_judge_18 ?_
        refine v_icmp_ne dX12_judge_19 (fun zc19 => ?_) (fun zc19 => ?_)
        · exact absurd rfl zc19
        · refine v_aload_n dX12_judge_22 rfl ?_
          refine v_aload_n dX12_judge_23 rfl ?_
          refine v_getR (q := 49) dX12_judge_24 fl_RX12_29 rfl rfl ?_
          refine v_iconst dX12_judge_27 ?_
          refine v_iload_n dX12_judge_28 rfl ?_
          refine v_imul dX12_judge_29 ?_
          rw [show (2 : Int32) = nI 2 from rfl, pk_mul]
          refine v_iaload dX12_judge_30 rfl (by exact vp_in_nI (by omega) (by omega)) ?_
          rw [nI_clamp (by omega), putS_o (by omega), c1]
          refine v_callV1 dX12_judge_31 mv_RX12_226 rfl rfl (Nat.le_of_ble_eq_true rfl) ?_
          refine ok_doStroke hM.putS (show 8 ≤ 9 by decide) hv putS_rep ht.w hky ?_
          rw [putS_putS, show rk_str R t (R.2.2.2.2.getD es[i].1 (0, 0, 0, 0)) = nx R t es[i].1 from rfl]
          show V _ _ _ _ _ _ _
          refine v_aload_n dX12_judge_34 rfl ?_
          refine v_getI dX12_judge_35 fl_RX12_197 rfl ?_
          rw [putS_rep.1]
          refine v_aload_n dX12_judge_38 rfl ?_
          refine v_getR (q := 49) dX12_judge_39 fl_RX12_29 rfl rfl ?_
          refine v_iconst dX12_judge_42 ?_
          refine v_iload_n dX12_judge_43 rfl ?_
          refine v_imul dX12_judge_44 ?_
          refine v_iconst dX12_judge_45 ?_
          refine v_iadd dX12_judge_46 ?_
          rw [show (2 : Int32) = nI 2 from rfl, pk_mul, nI_1]
          refine v_iaload dX12_judge_47 rfl (by exact vp_in_nI (by omega) (by omega)) ?_
          rw [nI_clamp (by omega), putS_o (by omega), c2]
          refine v_icmp_ne dX12_judge_48 (fun zc48 => ?_) (fun zc48 => ?_)
          · rw [nI_eq (by omega) (by omega)] at zc48
            refine v_iload_n dX12_judge_55 rfl ?_
            refine v_istore_n dX12_judge_56 (Nat.le_of_ble_eq_true rfl) rfl ?_
            refine v_iinc dX12_judge_57 rfl (Nat.le_of_ble_eq_true rfl) rfl ?_
            refine v_goto dX12_judge_60 ?_
            rw [nI_1]
            first | (rw [if_neg zc48] at he2; exact away _ i hil he2) | (exact ih (i + 1) _ (by omega) hnv (by rw [he2, if_pos (by exact zc48)]))
          · rw [nI_eq (by omega) (by omega)] at zc48
            refine v_iconst dX12_judge_51 ?_
            refine v_goto dX12_judge_52 ?_
            refine v_istore_n dX12_judge_56 (Nat.le_of_ble_eq_true rfl) rfl ?_
            refine v_iinc dX12_judge_57 rfl (Nat.le_of_ble_eq_true rfl) rfl ?_
            refine v_goto dX12_judge_60 ?_
            rw [nI_1]
            first | (rw [if_neg zc48] at he2; exact away _ i hil he2) | (exact ih (i + 1) _ (by omega) hnv (by rw [he2, if_pos (by exact zc48)]))
  refine ok_enter rfl (Nat.le_of_ble_eq_true rfl) ?_
  refine v_aload_n dX12_judge_0 rfl ?_
  refine v_callV0 dX12_judge_1 mv_RX12_229 rfl rfl (Nat.le_of_ble_eq_true rfl) ?_
  refine ok_stateNow hM.2.2.2.1 hS hs.w hm ?_
  show V _ _ _ _ (_ :: _) _ _
  refine v_istore_n dX12_judge_4 (Nat.le_of_ble_eq_true rfl) rfl ?_
  refine v_iconst dX12_judge_5 ?_
  refine v_istore_n dX12_judge_6 (Nat.le_of_ble_eq_true rfl) rfl ?_
  refine v_iconst dX12_judge_7 ?_
  refine v_istore_n dX12_judge_8 (Nat.le_of_ble_eq_true rfl) rfl ?_
  have hl := loop es.length 0 s (by omega) hs rfl
  rw [putS_id hS] at hl
  exact hl
theorem lN_seed {z : Nat} (hz : z < 2147483648) : lN z * 1103515245 + 12345 - (lN z * 1103515245 + 12345) / 2147483648 * 2147483648 = lN (nSeed z) := by
  rw [show (1103515245 : Int64) = lN 1103515245 from rfl, show (12345 : Int64) = lN 12345 from rfl, show (2147483648 : Int64) = lN 2147483648 from rfl, lN_mul, lN_add, pk_lRem (by omega) (by omega) (by omega)]
  rfl
theorem lN_key {z n : Nat} (hz : z < 2147483648) (h0 : 0 < n) (hn : n ≤ 9) : (lN z / 65536 - lN z / 65536 / lN n * lN n).toInt32 = nI (z / 65536 % n) := by
  rw [show (65536 : Int64) = lN 65536 from rfl, pk_lDiv (by omega) (by omega) (by omega), pk_lRem (by omega) h0 (by omega), lN_i]
theorem setL_same {k i : Nat} {x : Int64} : (setL σ k i x).2.1 k i = x := by simp [setL]
theorem wM3_ext {x : St × Int32 × Nat} (h0 : RepS τ x.1) (h2 : τ.1 44 25 = x.2.1) (h3 : τ.2.1 44 26 = lN x.2.2) (hf : ∀ a b, ¬ (a = 44 ∧ 21 ≤ b ∧ b ≤ 25) → τ.1 a b = σ.1 a b) (hg : ∀ a b, ¬ (a = 44 ∧ b = 26) → τ.2.1 a b = σ.2.1 a b) (h4 : τ.2.2 = σ.2.2) : τ = wM3 σ x := by
  refine Prod.ext (funext fun a => funext fun b => ?_) (Prod.ext (funext fun a => funext fun b => ?_) h4)
  · show τ.1 a b = (setI (putS σ x.1) 44 25 x.2.1).1 a b
    by_cases h : a = 44 ∧ b = 25
    · obtain ⟨rfl, rfl⟩ := h
      rw [setI_same, h2]
    · rw [setI_ne (by omega)]
      by_cases h1 : a = 44 ∧ 21 ≤ b ∧ b ≤ 24
      · obtain ⟨rfl, q1, q2⟩ := h1
        obtain ⟨p1, p2, p3, p4⟩ := putS_rep (σ := σ) (s := x.1)
        obtain ⟨g1, g2, g3, g4⟩ := h0
        rcases (show b = 21 ∨ b = 22 ∨ b = 23 ∨ b = 24 by omega) with rfl | rfl | rfl | rfl
        · rw [g1, p1]
        · rw [g2, p2]
        · rw [g3, p3]
        · rw [g4, p4]
      · rw [putS_o h1, hf a b (by omega)]
  · show τ.2.1 a b = if a = 44 ∧ b = 26 then lN x.2.2 else σ.2.1 a b
    by_cases h : a = 44 ∧ b = 26
    · rw [if_pos h, h.1, h.2, h3]
    · rw [if_neg h, hg a b h]
theorem wM3_S {x : St × Int32 × Nat} : RepS (wM3 σ x) x.1 := by
  obtain ⟨p1, p2, p3, p4⟩ := putS_rep (σ := σ) (s := x.1)
  have e : (wM3 σ x).1 = (setI (putS σ x.1) 44 25 x.2.1).1 := rfl
  refine ⟨?_, ?_, ?_, ?_⟩ <;> rw [e, setI_ne (by omega)] <;> assumption
theorem wM3_o {x : St × Int32 × Nat} {a b : Nat} (h : ¬ (a = 44 ∧ 21 ≤ b ∧ b ≤ 25)) : (wM3 σ x).1 a b = σ.1 a b := by
  show (setI (putS σ x.1) 44 25 x.2.1).1 a b = _
  rw [setI_ne (by omega), putS_o (by omega)]
theorem ok_mdrift {x : Int32} {sd : Nat} (hP : MP σ R s) (hsd : σ.2.1 44 26 = lN sd) (hsd2 : sd < 2147483648) (h1 : ¬ (1 ≤ x.toInt ∧ x.toInt ≤ 999) → Q (some (.int OUT)) σ) (h2 : 1 ≤ x.toInt ∧ x.toInt ≤ 999 → R.2.2.2.2.length = 0 → Q (some (.int NOTN)) σ)
    (h3 : 1 ≤ x.toInt ∧ x.toInt ≤ 999 → 0 < R.2.2.2.2.length → Q (some (.int (nI (drS R x.toInt.toNat (s, σ.1 44 25, sd)).1.1))) (wM3 σ (drS R x.toInt.toNat (s, σ.1 44 25, sd)))) : Ok (D + 3) mX12_drift [.ref 44, .int x] σ Q := by
  obtain ⟨hM, h4, hv, hS, hs⟩ := id hP
  have hm := hv.m100
  have hnk := hv.n9
  obtain ⟨x1, x2⟩ := iz_rng x
  have hxe := iz_of x
  generalize hxi : x.toInt = xi at *
  subst hxe
  have loop : 1 ≤ xi ∧ xi ≤ 999 → 0 < R.2.2.2.2.length → ∀ j i (y : St × Int32 × Nat) (lv3 : Option Value), i + j = xi.toNat → vS R.2.2.2.1 y.1 → y.2.2 < 2147483648 → drS R xi.toNat (s, σ.1 44 25, sd) = drS R j y → V mX12_drift (D + 3) 27 [some (.ref 44), some (.int (iz xi)), some (.int (nI i)), lv3] [] (wM3 σ y) Q := by
    intro hx hk0 j
    have hq := h3 hx hk0
    induction j with
    | zero =>
      intro i y lv3 hi hy hy2 he
      have he2 : drS R xi.toNat (s, σ.1 44 25, sd) = y := he
      rw [he2] at hq
      refine v_iload_n dX12_drift_27 rfl ?_
      refine v_iload_n dX12_drift_28 rfl ?_
      refine v_icmp_ge dX12_drift_29 (fun zc29 => ?_) (fun zc29 => ?_)
      · refine v_aload_n dX12_drift_98 rfl ?_
        refine v_getI dX12_drift_99 fl_RX12_197 rfl ?_
        rw [wM3_S.1]
        refine v_ireturn dX12_drift_102 rfl (rfl) ?_
        exact hq
      · rw [iz_nI, iz_le (by omega) (by omega) (by omega) (by omega)] at zc29; exfalso; omega
    | succ j ih =>
      intro i y lv3 hi hy hy2 he
      have hkl : nSeed y.2.2 / 65536 % R.2.2.2.2.length < R.2.2.2.2.length := Nat.mod_lt _ hk0
      have he2 : drS R xi.toNat (s, σ.1 44 25, sd) = drS R j (nx R y.1 (nSeed y.2.2 / 65536 % R.2.2.2.2.length), y.2.1 + nI (R.2.2.2.2.getD (nSeed y.2.2 / 65536 % R.2.2.2.2.length) (0, 0, 0, 0)).2.1, nSeed y.2.2) := he
      have hsl : nSeed y.2.2 < 2147483648 := Nat.mod_lt _ (by decide)
      have hs0 : (wM3 σ y).2.1 44 26 = lN y.2.2 := setL_same
      have hq0 : (wM3 σ y).1 44 25 = y.2.1 := by show (setI (putS σ y.1) 44 25 y.2.1).1 44 25 = _; rw [setI_same]
      have hM1 : ∀ z, RepM (setL (wM3 σ y) 44 26 z) R := fun z => hM.kept (fun b hb => wM3_o (σ := σ) (x := y) (a := 44) (b := b) (by omega)) (fun b => wM3_o (σ := σ) (x := y) (a := 45) (b := b) (by omega))
      have hM2 := hM1 (lN (nSeed y.2.2))
      have hS1 : ∀ z, RepS (setL (wM3 σ y) 44 26 z) y.1 := fun z => wM3_S (σ := σ) (x := y)
      have hS2 := hS1 (lN (nSeed y.2.2))
      have h42 : (setL (wM3 σ y) 44 26 (lN (nSeed y.2.2))).1 44 4 = nI R.2.2.2.2.length := by show (wM3 σ y).1 44 4 = _; rw [wM3_o (by omega)]; exact h4
      have hky : R.2.2.2.2[nSeed y.2.2 / 65536 % R.2.2.2.2.length]? = some (R.2.2.2.2.getD (nSeed y.2.2 / 65536 % R.2.2.2.2.length) (0, 0, 0, 0)) := by rw [List.getD, List.getElem?_eq_getElem hkl]; rfl
      obtain ⟨a1, a2, a3, a4⟩ := hM2.cells hky (by rw [h42]; exact nI_lt hkl (by omega))
      generalize hkd : nSeed y.2.2 / 65536 % R.2.2.2.2.length = kd at *
      have hnx := ih (i + 1) (nx R y.1 kd, y.2.1 + nI (R.2.2.2.2.getD kd (0, 0, 0, 0)).2.1, nSeed y.2.2) (some (.int (nI kd))) (by omega) (nx_v hv hkl hy) (by exact hsl) he2
      have ex : (4 : Int32) * nI kd + 1 = nI (4 * kd + 1) := by
        rw [show (4 : Int32) = nI 4 from rfl, pk_mul, nI_1]
      refine v_iload_n dX12_drift_27 rfl ?_
      refine v_iload_n dX12_drift_28 rfl ?_
      refine v_icmp_ge dX12_drift_29 (fun zc29 => ?_) (fun zc29 => ?_)
      · rw [iz_nI, iz_le (by omega) (by omega) (by omega) (by omega)] at zc29; exfalso; omega
      · refine v_aload_n dX12_drift_32 rfl ?_
        refine v_aload_n dX12_drift_33 rfl ?_
        refine v_getJ dX12_drift_34 fl_RX12_299 rfl ?_
        rw [hs0]
        refine v_ldc2 dX12_drift_37 cn_RX12_302 ?_
        refine v_lmul dX12_drift_40 ?_
        refine v_ldc2 dX12_drift_41 cn_RX12_304 ?_
        refine v_ladd dX12_drift_44 ?_
        refine v_ldc2 dX12_drift_45 cn_RX12_306 ?_
        refine v_lrem dX12_drift_48 (by decide) ?_
        rw [lN_seed hy2]
        refine v_putJ dX12_drift_49 fp_RX12_299 rfl ?_
        refine v_aload_n dX12_drift_52 rfl ?_
        refine v_getJ dX12_drift_53 fl_RX12_299 rfl ?_
        rw [setL_same]
        refine v_ldc2 dX12_drift_56 cn_RX12_308 ?_
        refine v_ldiv dX12_drift_59 (by decide) ?_
        refine v_aload_n dX12_drift_60 rfl ?_
        refine v_getI dX12_drift_61 fl_RX12_182 rfl ?_
        rw [h42]
        refine v_i2l dX12_drift_64 ?_
        rw [nI_l (by omega)]
        refine v_lrem dX12_drift_65 (by rw [show (0 : Int64) = lN 0 from rfl, lN_eq (by omega) (by omega)]; omega) ?_
        refine v_l2i dX12_drift_66 ?_
        rw [lN_key hsl hk0 (by omega), hkd]
        refine v_istore_n dX12_drift_67 (Nat.le_of_ble_eq_true rfl) rfl ?_
        refine v_aload_n dX12_drift_68 rfl ?_
        refine v_iload_n dX12_drift_69 rfl ?_
        refine v_callV1 dX12_drift_70 mv_RX12_226 rfl rfl (Nat.le_of_ble_eq_true rfl) ?_
        refine ok_doStroke hM2 (show 8 ≤ 9 by decide) hv hS2 hy.w hky ?_
        rw [show rk_str R y.1 (R.2.2.2.2.getD kd (0, 0, 0, 0)) = nx R y.1 kd from rfl]
        show V _ _ _ _ _ _ _
        refine v_aload_n dX12_drift_73 rfl ?_
        refine v_dup dX12_drift_74 rfl ?_
        refine v_getI dX12_drift_75 fl_RX12_188 rfl ?_
        rw [putS_o (by omega)]
        refine v_aload_n dX12_drift_78 rfl ?_
        refine v_getR (q := 45) dX12_drift_79 fl_RX12_13 rfl rfl ?_
        refine v_iconst dX12_drift_82 ?_
        refine v_iload_n dX12_drift_83 rfl ?_
        refine v_imul dX12_drift_84 ?_
        refine v_iconst dX12_drift_85 ?_
        refine v_iadd dX12_drift_86 ?_
        rw [ex]
        refine v_iaload dX12_drift_87 rfl (by exact vp_in_nI (by omega) (by omega)) ?_
        rw [nI_clamp (by omega), putS_o (by omega), a2]
        refine v_iadd dX12_drift_88 ?_
        refine v_putI dX12_drift_89 fp_RX12_188 rfl ?_
        refine v_iinc dX12_drift_92 rfl (Nat.le_of_ble_eq_true rfl) rfl ?_
        refine v_goto dX12_drift_95 ?_
        rw [nI_1]
        refine Eq.mp (congrArg (fun w => V mX12_drift (D + 3) 27 [some (.ref 44), some (.int (iz xi)), some (.int (nI (i + 1))), some (.int (nI kd))] [] w Q) ?_) hnx
        refine (wM3_ext ?_ ?_ ?_ ?_ ?_ (by rfl)).symm
        · obtain ⟨p1, p2, p3, p4⟩ := putS_rep (σ := setL (wM3 σ y) 44 26 (lN (nSeed y.2.2))) (s := nx R y.1 kd)
          refine ⟨?_, ?_, ?_, ?_⟩ <;> rw [setI_ne (by omega)] <;> assumption
        · rw [setI_same]
          show (wM3 σ y).1 44 25 + _ = _
          rw [hq0]
        · exact setL_same
        · intro a b h
          rw [setI_ne (by omega), putS_o (by omega)]
          exact wM3_o (σ := σ) (x := y) (a := a) (b := b) h
        · intro a b h
          show (if a = 44 ∧ b = 26 then _ else if a = 44 ∧ b = 26 then _ else σ.2.1 a b) = _
          rw [if_neg h, if_neg h]
  have hw0 : wM3 σ (s, σ.1 44 25, sd) = σ := (wM3_ext hS rfl hsd (fun _ _ _ => rfl) (fun _ _ _ => rfl) rfl).symm
  refine ok_enter rfl (Nat.le_of_ble_eq_true rfl) ?_
  refine v_iload_n dX12_drift_0 rfl ?_
  refine v_iconst dX12_drift_1 ?_
  refine v_sipush dX12_drift_2 ?_
  refine v_callS3 dX12_drift_5 ms_RX12_68 (Nat.le_of_ble_eq_true rfl) ?_
  refine ok_in ?_
  rw [show ((1 : Int32)).toInt = 1 from rfl, show ((999 : Int32)).toInt = 999 from rfl, iz_toInt (by omega) (by omega)]
  show V _ _ _ _ (_ :: _) _ _
  refine v_if_ne dX12_drift_8 (fun zc8 => ?_) (fun zc8 => ?_)
  · refine v_aload_n dX12_drift_14 rfl ?_
    refine v_getI dX12_drift_15 fl_RX12_182 rfl ?_
    rw [h4]
    refine v_if_ne dX12_drift_18 (fun zc18 => ?_) (fun zc18 => ?_)
    · rw [show (0 : Int32) = nI 0 from rfl, nI_eq (by omega) (by omega)] at zc18
      refine v_iconst dX12_drift_25 ?_
      refine v_istore_n dX12_drift_26 (Nat.le_of_ble_eq_true rfl) rfl ?_
      have hl := loop (if10 zc8) (by omega) xi.toNat 0 (s, σ.1 44 25, sd) none (by omega) hs hsd2 rfl
      rw [hw0] at hl
      exact hl
    · rw [show (0 : Int32) = nI 0 from rfl, nI_eq (by omega) (by omega)] at zc18
      refine v_ldcw dX12_drift_21 cn_RX12_258 ?_
      refine v_ireturn dX12_drift_24 rfl (rfl) ?_
      exact h2 (if10 zc8) zc18
  · refine v_ldc dX12_drift_11 cn_RX12_72 ?_
    refine v_ireturn dX12_drift_13 rfl (rfl) ?_
    exact h1 (if01 zc8)
end MP1
