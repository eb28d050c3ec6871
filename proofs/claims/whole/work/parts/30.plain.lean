/-! ===== the class: plain public calls ===== -/
def UNK : Int32 := -1000000001
def FUL : Int32 := -1000000004
def drS (R : Rk) : Nat → St × Int32 × Nat → St × Int32 × Nat
  | 0, x => x
  | n + 1, x => drS R n (nx R x.1 (nSeed x.2.2 / 65536 % R.2.2.2.2.length), x.2.1 + nI (R.2.2.2.2.getD (nSeed x.2.2 / 65536 % R.2.2.2.2.length) (0, 0, 0, 0)).2.1, nSeed x.2.2)
def wP3 (σ : Wd) (x : St × Int32 × Nat) : Wd := setI (setI (setI σ 13 0 (nI (ps x.1))) 13 1 x.2.1) 13 2 (nI x.2.2)
def keyS (R : Rk) (x y : Int) : Int32 := if ¬ (0 ≤ x ∧ x < R.2.2.2.2.length) then UNK else if y = 0 then nI (R.2.2.2.2.getD x.toNat (0, 0, 0, 0)).1 else if y = 1 then nI (R.2.2.2.2.getD x.toNat (0, 0, 0, 0)).2.1 else if y = 2 then iz (R.2.2.2.2.getD x.toNat (0, 0, 0, 0)).2.2.1 else if y = 3 then iz (R.2.2.2.2.getD x.toNat (0, 0, 0, 0)).2.2.2 else OUT
section PC
variable {D : Nat} {σ τ : Wd} {Q : Option Value → Wd → Prop} {R : Rk} {s : St} {r n : Nat}
theorem x_nI {x : Int32} (h : 0 ≤ x.toInt) : x = nI x.toInt.toNat := by
  rw [← iz_toN h]
  exact iz_of x
theorem if10 {p : Prop} [Decidable p] (h : ¬ (if p then (1 : Int32) else 0) = 0) : p := by
  by_cases hp : p
  · exact hp
  · rw [if_neg hp] at h; exact absurd rfl h
theorem if01 {p : Prop} [Decidable p] (h : (if p then (1 : Int32) else 0) = 0) : ¬ p := fun hp => by
  rw [if_pos hp] at h
  exact absurd h (by decide)
theorem wP3_ext {x : St × Int32 × Nat} (h1 : τ.1 13 0 = nI (ps x.1)) (h2 : τ.1 13 1 = x.2.1) (h3 : τ.1 13 2 = nI x.2.2) (hf : ∀ a b, ¬ (a = 13 ∧ b ≤ 2) → τ.1 a b = σ.1 a b) (h4 : τ.2 = σ.2) : τ = wP3 σ x := by
  refine Prod.ext (funext fun a => funext fun b => ?_) h4
  unfold wP3
  simp only [setI_get]
  by_cases h : a = 13 ∧ b ≤ 2
  · obtain ⟨rfl, hb⟩ := h
    rcases (show b = 0 ∨ b = 1 ∨ b = 2 by omega) with rfl | rfl | rfl
    · simpa using h1
    · simpa using h2
    · simpa using h3
  · rw [hf a b h, if_neg (by omega), if_neg (by omega), if_neg (by omega)]
theorem ok_cfault (hQ : Q (some (.int (σ.1 1 3))) σ) : Ok D mX11_fault [.ref 0] σ Q := by
  refine ok_enter rfl (Nat.le_of_ble_eq_true rfl) ?_
  refine v_aload_n dX11_fault_0 rfl ?_
  refine v_getR (q := 1) dX11_fault_1 fl_RX11_12 rfl rfl ?_
  refine v_getI dX11_fault_4 fl_RX11_134 rfl ?_
  refine v_ireturn dX11_fault_7 rfl (rfl) ?_
  exact hQ
theorem ok_ckey {x y : Int32} (hP : CP σ r R s) (hQ : Q (some (.int (keyS R x.toInt y.toInt))) σ) : Ok (D + 1) mX11_key [.ref 0, .int x, .int y] σ Q := by
  obtain ⟨hr, hrk, hR, hv, hp0, hs⟩ := id hP
  have hnk := hv.n9
  unfold keyS at hQ
  have fin : 0 ≤ x.toInt ∧ x.toInt < R.2.2.2.2.length → V mX11_key (D + 1) 11 [some (.ref 0), some (.int x), some (.int y)] [] σ Q := by
    intro hx
    rw [if_neg (fun h => h hx)] at hQ
    have hky : R.2.2.2.2[x.toInt.toNat]? = some (R.2.2.2.2.getD x.toInt.toNat (0, 0, 0, 0)) := by rw [List.getD, List.getElem?_eq_getElem (by omega)]; rfl
    obtain ⟨a1, a2, a3, a4⟩ := hR.2.2.2.2.2 _ _ hky
    have hva : ∀ k, vAt σ k 9 x = σ.1 k x.toInt.toNat := fun k => by unfold vAt; rw [if_pos ⟨by omega, by omega⟩]
    refine v_iload_n dX11_key_11 rfl ?_
    rcases (show y.toInt = 0 ∨ y.toInt = 1 ∨ y.toInt = 2 ∨ y.toInt = 3 ∨ (y.toInt < 0 ∨ 3 < y.toInt) by omega) with e | e | e | e | e
    · refine v_tableIn (tgt := 44) dX11_key_12 (by omega) (by omega) (by rw [e]; rfl) (by decide) ?_
      refine v_aload_n dX11_key_44 rfl ?_
      refine v_getM dX11_key_45 fl_RX11_19 rfl ?_
      rw [hrk]
      refine v_getR dX11_key_48 fl_RX11_167 hr.lay hr.q5 ?_
      refine v_iload_n dX11_key_51 rfl ?_
      refine v_callS2 dX11_key_52 ms_RX11_171 (Nat.le_of_ble_eq_true rfl) ?_
      refine ok_at hr.l1 (by omega) ?_
      rw [hva, a1]
      show V _ _ _ _ (_ :: _) _ _
      refine v_ireturn dX11_key_55 rfl (rfl) ?_
      rw [if_pos e] at hQ
      exact hQ
    · refine v_tableIn (tgt := 56) dX11_key_12 (by omega) (by omega) (by rw [e]; rfl) (by decide) ?_
      refine v_aload_n dX11_key_56 rfl ?_
      refine v_getM dX11_key_57 fl_RX11_19 rfl ?_
      rw [hrk]
      refine v_getR dX11_key_60 fl_RX11_175 hr.lay hr.q6 ?_
      refine v_iload_n dX11_key_63 rfl ?_
      refine v_callS2 dX11_key_64 ms_RX11_171 (Nat.le_of_ble_eq_true rfl) ?_
      refine ok_at hr.l2 (by omega) ?_
      rw [hva, a2]
      show V _ _ _ _ (_ :: _) _ _
      refine v_ireturn dX11_key_67 rfl (rfl) ?_
      rw [if_neg (by omega), if_pos e] at hQ
      exact hQ
    · refine v_tableIn (tgt := 68) dX11_key_12 (by omega) (by omega) (by rw [e]; rfl) (by decide) ?_
      refine v_aload_n dX11_key_68 rfl ?_
      refine v_getM dX11_key_69 fl_RX11_19 rfl ?_
      rw [hrk]
      refine v_getR dX11_key_72 fl_RX11_178 hr.lay hr.q7 ?_
      refine v_iload_n dX11_key_75 rfl ?_
      refine v_callS2 dX11_key_76 ms_RX11_171 (Nat.le_of_ble_eq_true rfl) ?_
      refine ok_at hr.l3 (by omega) ?_
      rw [hva, a3]
      show V _ _ _ _ (_ :: _) _ _
      refine v_ireturn dX11_key_79 rfl (rfl) ?_
      rw [if_neg (by omega), if_neg (by omega), if_pos e] at hQ
      exact hQ
    · refine v_tableIn (tgt := 80) dX11_key_12 (by omega) (by omega) (by rw [e]; rfl) (by decide) ?_
      refine v_aload_n dX11_key_80 rfl ?_
      refine v_getM dX11_key_81 fl_RX11_19 rfl ?_
      rw [hrk]
      refine v_getR dX11_key_84 fl_RX11_181 hr.lay hr.q8 ?_
      refine v_iload_n dX11_key_87 rfl ?_
      refine v_callS2 dX11_key_88 ms_RX11_171 (Nat.le_of_ble_eq_true rfl) ?_
      refine ok_at hr.l4 (by omega) ?_
      rw [hva, a4]
      show V _ _ _ _ (_ :: _) _ _
      refine v_ireturn dX11_key_91 rfl (rfl) ?_
      rw [if_neg (by omega), if_neg (by omega), if_neg (by omega), if_pos e] at hQ
      exact hQ
    · refine v_tableOut (tgt := 92) dX11_key_12 e (by decide) ?_
      refine v_ldc dX11_key_92 cn_RX11_97 ?_
      refine v_ireturn dX11_key_94 rfl (rfl) ?_
      rw [if_neg (by omega), if_neg (by omega), if_neg (by omega), if_neg (by omega)] at hQ
      exact hQ
  refine ok_enter rfl (Nat.le_of_ble_eq_true rfl) ?_
  refine v_aload_n dX11_key_0 rfl ?_
  refine v_iload_n dX11_key_1 rfl ?_
  refine v_callV1 dX11_key_2 mv_RX11_163 rfl rfl (Nat.le_of_ble_eq_true rfl) ?_
  refine ok_isKey hr hrk hR.2.2.2.2.1 (by omega) ?_
  show V _ _ _ _ (_ :: _) _ _
  refine v_if_ne dX11_key_5 (fun zc5 => ?_) (fun zc5 => ?_)
  · exact fin (if10 zc5)
  · rw [if_pos (if01 zc5)] at hQ
    refine v_ldc dX11_key_8 cn_RX11_166 ?_
    refine v_ireturn dX11_key_10 rfl (rfl) ?_
    exact hQ
theorem ok_cstrike {x : Int32} (hP : CP σ r R s) (hun : ¬ (0 ≤ x.toInt ∧ x.toInt < R.2.2.2.2.length) → Q (some (.int UNK)) σ) (hQ : 0 ≤ x.toInt ∧ x.toInt < R.2.2.2.2.length → Q (some (.int (nI (nx R s x.toInt.toNat).1))) (wChg (setI (setI σ 13 0 (nI (ps (nx R s x.toInt.toNat)))) 13 1 (σ.1 13 1 + nI (R.2.2.2.2.getD x.toInt.toNat (0, 0, 0, 0)).2.1)))) : Ok (D + 5) mX11_strike [.ref 0, .int x] σ Q := by
  obtain ⟨hr, hrk, hR, hv, hp0, hs⟩ := id hP
  have hnk := hv.n9
  refine ok_enter rfl (Nat.le_of_ble_eq_true rfl) ?_
  refine v_aload_n dX11_strike_0 rfl ?_
  refine v_iload_n dX11_strike_1 rfl ?_
  refine v_callV1 dX11_strike_2 mv_RX11_163 rfl rfl (Nat.le_of_ble_eq_true rfl) ?_
  refine ok_isKey hr hrk hR.2.2.2.2.1 (by omega) ?_
  show V _ _ _ _ (_ :: _) _ _
  refine v_if_ne dX11_strike_5 (fun zc5 => ?_) (fun zc5 => ?_)
  · have hx := if10 zc5
    have hky : R.2.2.2.2[x.toInt.toNat]? = some (R.2.2.2.2.getD x.toInt.toNat (0, 0, 0, 0)) := by rw [List.getD, List.getElem?_eq_getElem (by omega)]; rfl
    have hq := hQ hx
    have hnv := nx_v hv (show x.toInt.toNat < R.2.2.2.2.length by omega) hs
    refine v_aload_n dX11_strike_11 rfl ?_
    refine v_getR (q := 13) dX11_strike_12 fl_RX11_29 rfl rfl ?_
    refine v_aload_n dX11_strike_15 rfl ?_
    refine v_getM dX11_strike_16 fl_RX11_19 rfl ?_
    rw [hrk]
    refine v_iload_n dX11_strike_19 rfl ?_
    refine v_callV2 dX11_strike_20 mv_RX11_184 rfl rfl (Nat.le_of_ble_eq_true rfl) ?_
    rw [x_nI hx.1]
    refine ok_strikeOnce hr hR (show 8 ≤ 9 by decide) hv hs hky hp0 ?_
    rw [← x_nI hx.1, show rk_str R s (R.2.2.2.2.getD x.toInt.toNat (0, 0, 0, 0)) = nx R s x.toInt.toNat from rfl]
    show V _ _ _ _ _ _ _
    refine v_aload_n dX11_strike_23 rfl ?_
    refine v_callV0 dX11_strike_24 mv_RX11_128 rfl rfl (Nat.le_of_ble_eq_true rfl) ?_
    refine ok_stateChanged ?_
    show V _ _ _ _ _ _ _
    refine v_aload_n dX11_strike_27 rfl ?_
    refine v_getR (q := 13) dX11_strike_28 fl_RX11_29 rfl rfl ?_
    refine v_getI dX11_strike_31 fl_RX11_114 rfl ?_
    unfold wChg
    rw [setI_ne (by omega), setI_ne (by omega), setI_ne (by omega), setI_ne (by omega), setI_ne (by omega), setI_same]
    refine v_callS1 dX11_strike_34 ms_RX11_149 (Nat.le_of_ble_eq_true rfl) ?_
    refine ok_shownIn ?_
    rw [ps_sh hv.m100 hnv]
    show V _ _ _ _ (_ :: _) _ _
    refine v_ireturn dX11_strike_37 rfl (rfl) ?_
    exact hq
  · refine v_ldc dX11_strike_8 cn_RX11_166 ?_
    refine v_ireturn dX11_strike_10 rfl (rfl) ?_
    exact hun (if01 zc5)
theorem ok_cbegin (hP : CP σ r R s) (hQ : Q (some (.int (nI s.1))) (wChg (setI σ 13 0 0))) : Ok (D + 2) mX11_begin [.ref 0] σ Q := by
  obtain ⟨hr, hrk, hR, hv, hp0, hs⟩ := id hP
  refine ok_enter rfl (Nat.le_of_ble_eq_true rfl) ?_
  refine v_aload_n dX11_begin_0 rfl ?_
  refine v_getR (q := 13) dX11_begin_1 fl_RX11_29 rfl rfl ?_
  refine v_getI dX11_begin_4 fl_RX11_114 rfl ?_
  rw [hp0]
  refine v_callS1 dX11_begin_7 ms_RX11_149 (Nat.le_of_ble_eq_true rfl) ?_
  refine ok_shownIn ?_
  rw [ps_sh hv.m100 hs]
  show V _ _ _ _ (_ :: _) _ _
  refine v_istore_n dX11_begin_10 (Nat.le_of_ble_eq_true rfl) rfl ?_
  refine v_aload_n dX11_begin_11 rfl ?_
  refine v_getR (q := 13) dX11_begin_12 fl_RX11_29 rfl rfl ?_
  refine v_iconst dX11_begin_15 ?_
  refine v_putI dX11_begin_16 fp_RX11_114 rfl ?_
  refine v_aload_n dX11_begin_19 rfl ?_
  refine v_callV0 dX11_begin_20 mv_RX11_128 rfl rfl (Nat.le_of_ble_eq_true rfl) ?_
  refine ok_stateChanged ?_
  show V _ _ _ _ _ _ _
  refine v_iload_n dX11_begin_23 rfl ?_
  refine v_ireturn dX11_begin_24 rfl (rfl) ?_
  exact hQ
theorem ok_ctarget {x : Int32} {c : Nat} (hP : CP σ r R s) (hc : σ.1 13 3 = nI c) (hc6 : c ≤ 6) (h1 : ¬ (0 ≤ x.toInt ∧ x.toInt < R.2.2.2.1) → Q (some (.int OUT)) σ) (h2 : 0 ≤ x.toInt ∧ x.toInt < R.2.2.2.1 → c = 6 → Q (some (.int FUL)) σ) (h3 : 0 ≤ x.toInt ∧ x.toInt < R.2.2.2.1 → c < 6 → Q (some (.int (nI (c + 1)))) (setI (setI (setI σ 14 c x) 13 3 (nI (c + 1))) 26 6 0)) : Ok (D + 1) mX11_target [.ref 0, .int x] σ Q := by
  obtain ⟨hr, hrk, hR, hv, hp0, hs⟩ := id hP
  refine ok_enter rfl (Nat.le_of_ble_eq_true rfl) ?_
  refine v_aload_n dX11_target_0 rfl ?_
  refine v_iload_n dX11_target_1 rfl ?_
  refine v_callV1 dX11_target_2 mv_RX11_188 rfl rfl (Nat.le_of_ble_eq_true rfl) ?_
  refine ok_isOnDial hr hrk hR.2.2.2.1 hv.m100 ?_
  show V _ _ _ _ (_ :: _) _ _
  refine v_if_ne dX11_target_5 (fun zc5 => ?_) (fun zc5 => ?_)
  · refine v_aload_n dX11_target_11 rfl ?_
    refine v_getR (q := 13) dX11_target_12 fl_RX11_29 rfl rfl ?_
    refine v_getI dX11_target_15 fl_RX11_120 rfl ?_
    rw [hc]
    refine v_bipush dX11_target_18 ?_
    refine v_icmp_lt dX11_target_20 (fun zc20 => ?_) (fun zc20 => ?_)
    · rw [show (6 : Int32) = nI 6 from rfl, nI_ltI (by omega) (by omega)] at zc20
      refine v_aload_n dX11_target_26 rfl ?_
      refine v_getR (q := 13) dX11_target_27 fl_RX11_29 rfl rfl ?_
      refine v_getR (q := 14) dX11_target_30 fl_RX11_209 rfl rfl ?_
      refine v_aload_n dX11_target_33 rfl ?_
      refine v_getR (q := 13) dX11_target_34 fl_RX11_29 rfl rfl ?_
      refine v_getI dX11_target_37 fl_RX11_120 rfl ?_
      rw [hc]
      refine v_iload_n dX11_target_40 rfl ?_
      refine v_callS3 dX11_target_41 ms_RX11_212 (Nat.le_of_ble_eq_true rfl) ?_
      refine ok_put rfl (by decide) ?_
      unfold wPut
      rw [nI_toInt (by omega), if_pos (by omega), show ((c : Int)).toNat = c from rfl]
      show V _ _ _ _ _ _ _
      refine v_aload_n dX11_target_44 rfl ?_
      refine v_getR (q := 13) dX11_target_45 fl_RX11_29 rfl rfl ?_
      refine v_dup dX11_target_48 rfl ?_
      refine v_getI dX11_target_49 fl_RX11_120 rfl ?_
      rw [setI_ne (by omega), hc]
      refine v_iconst dX11_target_52 ?_
      refine v_iadd dX11_target_53 ?_
      rw [nI_1]
      refine v_putI dX11_target_54 fp_RX11_120 rfl ?_
      refine v_aload_n dX11_target_57 rfl ?_
      refine v_getR (q := 26) dX11_target_58 fl_RX11_58 rfl rfl ?_
      refine v_callV0 dX11_target_61 mv_RX11_216 rfl rfl (Nat.le_of_ble_eq_true rfl) ?_
      refine ok_forgetMore ?_
      show V _ _ _ _ _ _ _
      refine v_aload_n dX11_target_64 rfl ?_
      refine v_getR (q := 13) dX11_target_65 fl_RX11_29 rfl rfl ?_
      refine v_getI dX11_target_68 fl_RX11_120 rfl ?_
      rw [setI_ne (by omega), setI_same]
      refine v_ireturn dX11_target_71 rfl (rfl) ?_
      exact h3 (if10 zc5) zc20
    · rw [show (6 : Int32) = nI 6 from rfl, nI_ltI (by omega) (by omega)] at zc20
      refine v_ldc dX11_target_23 cn_RX11_102 ?_
      refine v_ireturn dX11_target_25 rfl (rfl) ?_
      exact h2 (if10 zc5) (by omega)
  · refine v_ldc dX11_target_8 cn_RX11_97 ?_
    refine v_ireturn dX11_target_10 rfl (rfl) ?_
    exact h1 (if01 zc5)
theorem ok_ctargetAt {x : Int32} {tg : List Nat} (hc : σ.1 13 3 = nI tg.length) (hc6 : tg.length ≤ 6) (ht : ∀ (i v : Nat), tg[i]? = some v → σ.1 14 i = nI v) (hQ : Q (some (.int (if 0 ≤ x.toInt ∧ x.toInt < tg.length then nI (tg.getD x.toInt.toNat 0) else UNK))) σ) : Ok (D + 1) mX11_targetAt [.ref 0, .int x] σ Q := by
  have hT : (nI tg.length).toInt = tg.length := nI_toInt (by omega)
  refine ok_enter rfl (Nat.le_of_ble_eq_true rfl) ?_
  refine v_iload_n dX11_targetAt_0 rfl ?_
  refine v_if_lt dX11_targetAt_1 (fun zc1 => ?_) (fun zc1 => ?_)
  · rw [iz_ltI, iz_T0] at zc1
    refine v_ldc dX11_targetAt_15 cn_RX11_166 ?_
    refine v_ireturn dX11_targetAt_17 rfl (rfl) ?_
    rw [if_neg (by omega)] at hQ
    exact hQ
  · rw [iz_ltI, iz_T0] at zc1
    refine v_iload_n dX11_targetAt_4 rfl ?_
    refine v_aload_n dX11_targetAt_5 rfl ?_
    refine v_getR (q := 13) dX11_targetAt_6 fl_RX11_29 rfl rfl ?_
    refine v_getI dX11_targetAt_9 fl_RX11_120 rfl ?_
    rw [hc]
    refine v_icmp_lt dX11_targetAt_12 (fun zc12 => ?_) (fun zc12 => ?_)
    · rw [iz_ltI, hT] at zc12
      refine v_aload_n dX11_targetAt_18 rfl ?_
      refine v_getR (q := 13) dX11_targetAt_19 fl_RX11_29 rfl rfl ?_
      refine v_getR (q := 14) dX11_targetAt_22 fl_RX11_209 rfl rfl ?_
      refine v_iload_n dX11_targetAt_25 rfl ?_
      refine v_callS2 dX11_targetAt_26 ms_RX11_171 (Nat.le_of_ble_eq_true rfl) ?_
      refine ok_at rfl (by decide) ?_
      have e : vAt σ 14 6 x = nI (tg.getD x.toInt.toNat 0) := by
        unfold vAt
        rw [if_pos ⟨by omega, by omega⟩]
        exact ht _ _ (by rw [List.getD, List.getElem?_eq_getElem (by omega)]; rfl)
      rw [e]
      show V _ _ _ _ (_ :: _) _ _
      refine v_ireturn dX11_targetAt_29 rfl (rfl) ?_
      rw [if_pos (by omega)] at hQ
      exact hQ
    · rw [iz_ltI, hT] at zc12
      refine v_ldc dX11_targetAt_15 cn_RX11_166 ?_
      refine v_ireturn dX11_targetAt_17 rfl (rfl) ?_
      rw [if_neg (by omega)] at hQ
      exact hQ
theorem ok_cforget (hQ : Q (some (.int (σ.1 13 3))) (setI (setI σ 13 3 0) 26 6 0)) : Ok (D + 1) mX11_forget [.ref 0] σ Q := by
  refine ok_enter rfl (Nat.le_of_ble_eq_true rfl) ?_
  refine v_aload_n dX11_forget_0 rfl ?_
  refine v_getR (q := 13) dX11_forget_1 fl_RX11_29 rfl rfl ?_
  refine v_getI dX11_forget_4 fl_RX11_120 rfl ?_
  refine v_istore_n dX11_forget_7 (Nat.le_of_ble_eq_true rfl) rfl ?_
  refine v_aload_n dX11_forget_8 rfl ?_
  refine v_getR (q := 13) dX11_forget_9 fl_RX11_29 rfl rfl ?_
  refine v_iconst dX11_forget_12 ?_
  refine v_putI dX11_forget_13 fp_RX11_120 rfl ?_
  refine v_aload_n dX11_forget_16 rfl ?_
  refine v_getR (q := 26) dX11_forget_17 fl_RX11_58 rfl rfl ?_
  refine v_callV0 dX11_forget_20 mv_RX11_216 rfl rfl (Nat.le_of_ble_eq_true rfl) ?_
  refine ok_forgetMore ?_
  show V _ _ _ _ _ _ _
  refine v_iload_n dX11_forget_23 rfl ?_
  refine v_ireturn dX11_forget_24 rfl (rfl) ?_
  exact hQ
theorem ok_cwrite {x y : Int32} {c : Nat} (hP : CP σ r R s) (hc : σ.1 19 2 = nI c) (hc4 : c ≤ 40) (h0 : ¬ (0 ≤ x.toInt ∧ x.toInt < R.2.2.2.2.length) → Q (some (.int UNK)) σ) (h1 : 0 ≤ x.toInt ∧ x.toInt < R.2.2.2.2.length → ¬ (0 ≤ y.toInt ∧ y.toInt < R.2.2.2.1) → Q (some (.int OUT)) σ) (h2 : 0 ≤ x.toInt ∧ x.toInt < R.2.2.2.2.length → 0 ≤ y.toInt ∧ y.toInt < R.2.2.2.1 → c = 40 → Q (some (.int FUL)) σ) (h3 : 0 ≤ x.toInt ∧ x.toInt < R.2.2.2.2.length → 0 ≤ y.toInt ∧ y.toInt < R.2.2.2.1 → c < 40 → Q (some (.int (nI (c + 1)))) (setI (setI (setI σ 20 c x) 21 c y) 19 2 (nI (c + 1)))) : Ok (D + 1) mX11_write [.ref 0, .int x, .int y] σ Q := by
  obtain ⟨hr, hrk, hR, hv, hp0, hs⟩ := id hP
  have hnk := hv.n9
  refine ok_enter rfl (Nat.le_of_ble_eq_true rfl) ?_
  refine v_aload_n dX11_write_0 rfl ?_
  refine v_iload_n dX11_write_1 rfl ?_
  refine v_callV1 dX11_write_2 mv_RX11_163 rfl rfl (Nat.le_of_ble_eq_true rfl) ?_
  refine ok_isKey hr hrk hR.2.2.2.2.1 (by omega) ?_
  show V _ _ _ _ (_ :: _) _ _
  refine v_if_ne dX11_write_5 (fun zc5 => ?_) (fun zc5 => ?_)
  · refine v_aload_n dX11_write_11 rfl ?_
    refine v_iload_n dX11_write_12 rfl ?_
    refine v_callV1 dX11_write_13 mv_RX11_188 rfl rfl (Nat.le_of_ble_eq_true rfl) ?_
    refine ok_isOnDial hr hrk hR.2.2.2.1 hv.m100 ?_
    show V _ _ _ _ (_ :: _) _ _
    refine v_if_ne dX11_write_16 (fun zc16 => ?_) (fun zc16 => ?_)
    · refine v_aload_n dX11_write_22 rfl ?_
      refine v_getR (q := 19) dX11_write_23 fl_RX11_42 rfl rfl ?_
      refine v_getI dX11_write_26 fl_RX11_123 rfl ?_
      rw [hc]
      refine v_bipush dX11_write_29 ?_
      refine v_icmp_lt dX11_write_31 (fun zc31 => ?_) (fun zc31 => ?_)
      · rw [show (40 : Int32) = nI 40 from rfl, nI_ltI (by omega) (by omega)] at zc31
        refine v_aload_n dX11_write_37 rfl ?_
        refine v_getR (q := 19) dX11_write_38 fl_RX11_42 rfl rfl ?_
        refine v_iload_n dX11_write_41 rfl ?_
        refine v_iload_n dX11_write_42 rfl ?_
        refine v_callV2 dX11_write_43 mv_RX11_273 rfl rfl (Nat.le_of_ble_eq_true rfl) ?_
        refine ok_bookAppend hc zc31 ?_
        show V _ _ _ _ _ _ _
        refine v_aload_n dX11_write_46 rfl ?_
        refine v_getR (q := 19) dX11_write_47 fl_RX11_42 rfl rfl ?_
        refine v_getI dX11_write_50 fl_RX11_123 rfl ?_
        rw [setI_same]
        refine v_ireturn dX11_write_53 rfl (rfl) ?_
        exact h3 (if10 zc5) (if10 zc16) zc31
      · rw [show (40 : Int32) = nI 40 from rfl, nI_ltI (by omega) (by omega)] at zc31
        refine v_ldc dX11_write_34 cn_RX11_102 ?_
        refine v_ireturn dX11_write_36 rfl (rfl) ?_
        exact h2 (if10 zc5) (if10 zc16) (by omega)
    · refine v_ldc dX11_write_19 cn_RX11_97 ?_
      refine v_ireturn dX11_write_21 rfl (rfl) ?_
      exact h1 (if10 zc5) (if01 zc16)
  · refine v_ldc dX11_write_8 cn_RX11_166 ?_
    refine v_ireturn dX11_write_10 rfl (rfl) ?_
    exact h0 (if01 zc5)
theorem ok_ctear (hQ : Q (some (.int (σ.1 19 2))) (setI σ 19 2 0)) : Ok D mX11_tear [.ref 0] σ Q := by
  refine ok_enter rfl (Nat.le_of_ble_eq_true rfl) ?_
  refine v_aload_n dX11_tear_0 rfl ?_
  refine v_getR (q := 19) dX11_tear_1 fl_RX11_42 rfl rfl ?_
  refine v_getI dX11_tear_4 fl_RX11_123 rfl ?_
  refine v_istore_n dX11_tear_7 (Nat.le_of_ble_eq_true rfl) rfl ?_
  refine v_aload_n dX11_tear_8 rfl ?_
  refine v_getR (q := 19) dX11_tear_9 fl_RX11_42 rfl rfl ?_
  refine v_iconst dX11_tear_12 ?_
  refine v_putI dX11_tear_13 fp_RX11_123 rfl ?_
  refine v_iload_n dX11_tear_16 rfl ?_
  refine v_ireturn dX11_tear_17 rfl (rfl) ?_
  exact hQ
theorem ok_cjudge {es : List (Nat × Nat)} (hP : CP σ r R s) (hB : RepB σ es) (hb : vB R.2.2.2.1 R.2.2.2.2.length es) (hQ : Q (some (.int (iz (bWrong R s es 0)))) σ) : Ok (D + 5) mX11_judge [.ref 0] σ Q := by
  obtain ⟨hr, hrk, hR, hv, hp0, hs⟩ := id hP
  refine ok_enter rfl (Nat.le_of_ble_eq_true rfl) ?_
  refine v_aload_n dX11_judge_0 rfl ?_
  refine v_getR (q := 19) dX11_judge_1 fl_RX11_42 rfl rfl ?_
  refine v_aload_n dX11_judge_4 rfl ?_
  refine v_getM dX11_judge_5 fl_RX11_19 rfl ?_
  rw [hrk]
  refine v_aload_n dX11_judge_8 rfl ?_
  refine v_getR (q := 13) dX11_judge_9 fl_RX11_29 rfl rfl ?_
  refine v_getI dX11_judge_12 fl_RX11_114 rfl ?_
  rw [hp0]
  refine v_callV2 dX11_judge_15 mv_RX11_276 rfl rfl (Nat.le_of_ble_eq_true rfl) ?_
  refine ok_firstWrong hr hR (show 8 ≤ 9 by decide) hv hv.m100 hs hB hb ?_
  show V _ _ _ _ (_ :: _) _ _
  refine v_ireturn dX11_judge_18 rfl (rfl) ?_
  exact hQ
theorem ok_cseed {x : Int32} (h1 : x.toInt < 0 → Q (some (.int OUT)) σ) (h2 : 0 ≤ x.toInt → Q (some (.int (σ.1 13 2))) (setI σ 13 2 x)) : Ok D mX11_seed [.ref 0, .int x] σ Q := by
  refine ok_enter rfl (Nat.le_of_ble_eq_true rfl) ?_
  refine v_iload_n dX11_seed_0 rfl ?_
  refine v_if_ge dX11_seed_1 (fun zc1 => ?_) (fun zc1 => ?_)
  · rw [iz_leI, iz_T0] at zc1
    refine v_aload_n dX11_seed_7 rfl ?_
    refine v_getR (q := 13) dX11_seed_8 fl_RX11_29 rfl rfl ?_
    refine v_getI dX11_seed_11 fl_RX11_283 rfl ?_
    refine v_istore_n dX11_seed_14 (Nat.le_of_ble_eq_true rfl) rfl ?_
    refine v_aload_n dX11_seed_15 rfl ?_
    refine v_getR (q := 13) dX11_seed_16 fl_RX11_29 rfl rfl ?_
    refine v_iload_n dX11_seed_19 rfl ?_
    refine v_putI dX11_seed_20 fp_RX11_283 rfl ?_
    refine v_iload_n dX11_seed_23 rfl ?_
    refine v_ireturn dX11_seed_24 rfl (rfl) ?_
    exact h2 zc1
  · rw [iz_leI, iz_T0] at zc1
    refine v_ldc dX11_seed_4 cn_RX11_97 ?_
    refine v_ireturn dX11_seed_6 rfl (rfl) ?_
    exact h1 (by omega)
theorem ok_ckeep {x : Int32} (h1 : x.toInt ≠ 0 → x.toInt ≠ 1 → Q (some (.int UNK)) σ) (h2 : ∀ i : Nat, i < 2 → x.toInt = i → Q (some (.int 1)) (setI (wBec σ (15 + 2 * i) 13 6) (15 + 2 * i) 4 1)) : Ok (D + 2) mX11_keep [.ref 0, .int x] σ Q := by
  have go : ∀ p, vIsP p → p ≠ 13 → Q (some (.int 1)) (setI (wBec σ p 13 6) p 4 1) → V mX11_keep (D + 2) 5 [some (.ref 0), some (.int x), none] [.ref p] σ Q := by
    intro p hp hne hq
    refine v_astore_n dX11_keep_5 (Nat.le_of_ble_eq_true rfl) rfl ?_
    refine v_aload_n dX11_keep_6 rfl ?_
    refine v_ifnonnull dX11_keep_7 ?_
    refine v_aload_n dX11_keep_13 rfl ?_
    refine v_aload_n dX11_keep_14 rfl ?_
    refine v_getR (q := 13) dX11_keep_15 fl_RX11_29 rfl rfl ?_
    refine v_callV1 dX11_keep_18 mv_RX11_290 hp.lay rfl (Nat.le_of_ble_eq_true rfl) ?_
    refine ok_become hp (Or.inl rfl) hne ?_
    show V _ _ _ _ _ _ _
    refine v_aload_n dX11_keep_21 rfl ?_
    refine v_iconst dX11_keep_22 ?_
    refine v_putZ dX11_keep_23 fp_RX11_124 hp.lay (by first | exact Or.inl rfl | exact Or.inr rfl) ?_
    refine v_iconst dX11_keep_26 ?_
    refine v_ireturn dX11_keep_27 rfl (rfl) ?_
    exact hq
  refine ok_enter rfl (Nat.le_of_ble_eq_true rfl) ?_
  refine v_aload_n dX11_keep_0 rfl ?_
  refine v_iload_n dX11_keep_1 rfl ?_
  refine v_callV1 dX11_keep_2 mv_RX11_286 rfl rfl (Nat.le_of_ble_eq_true rfl) ?_
  refine ok_imageAt ?_
  show V _ _ _ _ (_ :: _) _ _
  by_cases h0 : x = 0
  · rw [if_pos h0]; exact go 15 (Or.inr (Or.inl rfl)) (by decide) (h2 0 (by decide) (by rw [h0]; rfl))
  · rw [if_neg h0]
    by_cases h3 : x = 1
    · rw [if_pos h3]; exact go 17 (Or.inr (Or.inr rfl)) (by decide) (h2 1 (by decide) (by rw [h3]; rfl))
    · rw [if_neg h3]
      refine v_astore_nN dX11_keep_5 (Nat.le_of_ble_eq_true rfl) rfl ?_
      refine v_aload_nN dX11_keep_6 rfl ?_
      refine v_ifnonnullN dX11_keep_7 ?_
      refine v_ldc dX11_keep_10 cn_RX11_166 ?_
      refine v_ireturn dX11_keep_12 rfl rfl ?_
      exact h1 (fun h => h0 (iz_eqI.mpr h)) (fun h => h3 (iz_eqI.mpr h))
theorem ok_cgoBack {x : Int32} (h1 : x.toInt ≠ 0 → x.toInt ≠ 1 → Q (some (.int UNK)) σ) (h2 : ∀ i : Nat, i < 2 → x.toInt = i → σ.1 (15 + 2 * i) 4 = 0 → Q (some (.int NOTN)) σ) (h3 : ∀ i : Nat, i < 2 → x.toInt = i → ¬ σ.1 (15 + 2 * i) 4 = 0 → Q (some (.int 1)) (wChg (wBec σ 13 (15 + 2 * i) 6))) : Ok (D + 2) mX11_goBack [.ref 0, .int x] σ Q := by
  have go : ∀ p, vIsP p → 13 ≠ p → (σ.1 p 4 = 0 → Q (some (.int NOTN)) σ) → (¬ σ.1 p 4 = 0 → Q (some (.int 1)) (wChg (wBec σ 13 p 6))) → V mX11_goBack (D + 2) 5 [some (.ref 0), some (.int x), none] [.ref p] σ Q := by
    intro p hp hne hq1 hq2
    refine v_astore_n dX11_goBack_5 (Nat.le_of_ble_eq_true rfl) rfl ?_
    refine v_aload_n dX11_goBack_6 rfl ?_
    refine v_ifnonnull dX11_goBack_7 ?_
    refine v_aload_n dX11_goBack_13 rfl ?_
    refine v_getI dX11_goBack_14 fl_RX11_124 hp.lay ?_
    refine v_if_ne dX11_goBack_17 (fun zc17 => ?_) (fun zc17 => ?_)
    · refine v_aload_n dX11_goBack_23 rfl ?_
      refine v_getR (q := 13) dX11_goBack_24 fl_RX11_29 rfl rfl ?_
      refine v_aload_n dX11_goBack_27 rfl ?_
      refine v_callV1 dX11_goBack_28 mv_RX11_290 rfl rfl (Nat.le_of_ble_eq_true rfl) ?_
      refine ok_become (Or.inl rfl) hp hne ?_
      show V _ _ _ _ _ _ _
      refine v_aload_n dX11_goBack_31 rfl ?_
      refine v_callV0 dX11_goBack_32 mv_RX11_128 rfl rfl (Nat.le_of_ble_eq_true rfl) ?_
      refine ok_stateChanged ?_
      show V _ _ _ _ _ _ _
      refine v_iconst dX11_goBack_35 ?_
      refine v_ireturn dX11_goBack_36 rfl (rfl) ?_
      exact hq2 zc17
    · refine v_ldc dX11_goBack_20 cn_RX11_208 ?_
      refine v_ireturn dX11_goBack_22 rfl (rfl) ?_
      exact hq1 zc17
  refine ok_enter rfl (Nat.le_of_ble_eq_true rfl) ?_
  refine v_aload_n dX11_goBack_0 rfl ?_
  refine v_iload_n dX11_goBack_1 rfl ?_
  refine v_callV1 dX11_goBack_2 mv_RX11_286 rfl rfl (Nat.le_of_ble_eq_true rfl) ?_
  refine ok_imageAt ?_
  show V _ _ _ _ (_ :: _) _ _
  by_cases h0 : x = 0
  · rw [if_pos h0]; exact go 15 (Or.inr (Or.inl rfl)) (by decide) (h2 0 (by decide) (by rw [h0]; rfl)) (h3 0 (by decide) (by rw [h0]; rfl))
  · rw [if_neg h0]
    by_cases h5 : x = 1
    · rw [if_pos h5]; exact go 17 (Or.inr (Or.inr rfl)) (by decide) (h2 1 (by decide) (by rw [h5]; rfl)) (h3 1 (by decide) (by rw [h5]; rfl))
    · rw [if_neg h5]
      refine v_astore_nN dX11_goBack_5 (Nat.le_of_ble_eq_true rfl) rfl ?_
      refine v_aload_nN dX11_goBack_6 rfl ?_
      refine v_ifnonnullN dX11_goBack_7 ?_
      refine v_ldc dX11_goBack_10 cn_RX11_166 ?_
      refine v_ireturn dX11_goBack_12 rfl rfl ?_
      exact h1 (fun h => h0 (iz_eqI.mpr h)) (fun h => h5 (iz_eqI.mpr h))
end PC
