/-! ===== told, drift of the class; plain calls of the reference ===== -/
def toldS (x : Int) (l : List Int32) : Int32 := if 0 ≤ x ∧ x < 13 then l.getD x.toNat 0 else OUT
section T1
variable {D : Nat} {σ τ : Wd} {Q : Option Value → Wd → Prop} {R : Rk} {s : St} {r n : Nat}
theorem ok_ctold {x : Int32} (hP : CP σ r R s) (hQ : Q (some (.int (toldS x.toInt [iz R.1, nI R.2.1, nI R.2.2.1, nI R.2.2.2.1, nI R.2.2.2.2.length, σ.1 1 1, nI s.1, nI s.2.1, nI s.2.2.1, nI s.2.2.2, σ.1 13 1, σ.1 13 3, σ.1 19 2]))) σ) : Ok (D + 1) mX11_told [.ref 0, .int x] σ Q := by
  obtain ⟨hr, hrk, hR, hv, hp0, hs⟩ := id hP
  have hm := hv.m100
  have e1 := ps_sh hm hs
  have e2 := ps_he hm hs
  have e3 := ps_si hm hs
  have e4 := ps_ty hm hs
  have hs5 := hs.2.2.2.2
  unfold toldS at hQ
  refine ok_enter rfl (Nat.le_of_ble_eq_true rfl) ?_
  refine v_iload_n dX11_told_0 rfl ?_
  rcases (show x.toInt = 0 ∨ x.toInt = 1 ∨ x.toInt = 2 ∨ x.toInt = 3 ∨ x.toInt = 4 ∨ x.toInt = 5 ∨ x.toInt = 6 ∨ x.toInt = 7 ∨ x.toInt = 8 ∨ x.toInt = 9 ∨ x.toInt = 10 ∨ x.toInt = 11 ∨ x.toInt = 12 ∨ (x.toInt < 0 ∨ 12 < x.toInt) by omega) with e | e | e | e | e | e | e | e | e | e | e | e | e | e
  · refine v_tableIn (tgt := 68) dX11_told_1 (by omega) (by omega) (by rw [e]; rfl) (by decide) ?_
    refine v_aload_n dX11_told_68 rfl ?_
    refine v_getM dX11_told_69 fl_RX11_19 rfl ?_
    rw [hrk]
    refine v_getI dX11_told_72 fl_RX11_137 hr.lay ?_
    rw [hR.1]
    refine v_ireturn dX11_told_75 rfl (rfl) ?_
    first | (rw [if_pos (by omega), e] at hQ; exact hQ) | (rw [if_neg (by omega)] at hQ; exact hQ)
  · refine v_tableIn (tgt := 76) dX11_told_1 (by omega) (by omega) (by rw [e]; rfl) (by decide) ?_
    refine v_aload_n dX11_told_76 rfl ?_
    refine v_getM dX11_told_77 fl_RX11_19 rfl ?_
    rw [hrk]
    refine v_getI dX11_told_80 fl_RX11_140 hr.lay ?_
    rw [hR.2.1]
    refine v_ireturn dX11_told_83 rfl (rfl) ?_
    first | (rw [if_pos (by omega), e] at hQ; exact hQ) | (rw [if_neg (by omega)] at hQ; exact hQ)
  · refine v_tableIn (tgt := 84) dX11_told_1 (by omega) (by omega) (by rw [e]; rfl) (by decide) ?_
    refine v_aload_n dX11_told_84 rfl ?_
    refine v_getM dX11_told_85 fl_RX11_19 rfl ?_
    rw [hrk]
    refine v_getI dX11_told_88 fl_RX11_143 hr.lay ?_
    rw [hR.2.2.1]
    refine v_ireturn dX11_told_91 rfl (rfl) ?_
    first | (rw [if_pos (by omega), e] at hQ; exact hQ) | (rw [if_neg (by omega)] at hQ; exact hQ)
  · refine v_tableIn (tgt := 92) dX11_told_1 (by omega) (by omega) (by rw [e]; rfl) (by decide) ?_
    refine v_aload_n dX11_told_92 rfl ?_
    refine v_getM dX11_told_93 fl_RX11_19 rfl ?_
    rw [hrk]
    refine v_getI dX11_told_96 fl_RX11_131 hr.lay ?_
    rw [hR.2.2.2.1]
    refine v_ireturn dX11_told_99 rfl (rfl) ?_
    first | (rw [if_pos (by omega), e] at hQ; exact hQ) | (rw [if_neg (by omega)] at hQ; exact hQ)
  · refine v_tableIn (tgt := 100) dX11_told_1 (by omega) (by omega) (by rw [e]; rfl) (by decide) ?_
    refine v_aload_n dX11_told_100 rfl ?_
    refine v_getM dX11_told_101 fl_RX11_19 rfl ?_
    rw [hrk]
    refine v_getI dX11_told_104 fl_RX11_146 hr.lay ?_
    rw [hR.2.2.2.2.1]
    refine v_ireturn dX11_told_107 rfl (rfl) ?_
    first | (rw [if_pos (by omega), e] at hQ; exact hQ) | (rw [if_neg (by omega)] at hQ; exact hQ)
  · refine v_tableIn (tgt := 108) dX11_told_1 (by omega) (by omega) (by rw [e]; rfl) (by decide) ?_
    refine v_aload_n dX11_told_108 rfl ?_
    refine v_getR (q := 1) dX11_told_109 fl_RX11_12 rfl rfl ?_
    refine v_getI dX11_told_112 fl_RX11_98 rfl ?_
    refine v_ireturn dX11_told_115 rfl (rfl) ?_
    first | (rw [if_pos (by omega), e] at hQ; exact hQ) | (rw [if_neg (by omega)] at hQ; exact hQ)
  · refine v_tableIn (tgt := 116) dX11_told_1 (by omega) (by omega) (by rw [e]; rfl) (by decide) ?_
    refine v_aload_n dX11_told_116 rfl ?_
    refine v_getR (q := 13) dX11_told_117 fl_RX11_29 rfl rfl ?_
    refine v_getI dX11_told_120 fl_RX11_114 rfl ?_
    rw [hp0]
    refine v_callS1 dX11_told_123 ms_RX11_149 (Nat.le_of_ble_eq_true rfl) ?_
    refine ok_shownIn ?_
    rw [e1]
    show V _ _ _ _ (_ :: _) _ _
    refine v_ireturn dX11_told_126 rfl (rfl) ?_
    first | (rw [if_pos (by omega), e] at hQ; exact hQ) | (rw [if_neg (by omega)] at hQ; exact hQ)
  · refine v_tableIn (tgt := 127) dX11_told_1 (by omega) (by omega) (by rw [e]; rfl) (by decide) ?_
    refine v_aload_n dX11_told_127 rfl ?_
    refine v_getR (q := 13) dX11_told_128 fl_RX11_29 rfl rfl ?_
    refine v_getI dX11_told_131 fl_RX11_114 rfl ?_
    rw [hp0]
    refine v_callS1 dX11_told_134 ms_RX11_153 (Nat.le_of_ble_eq_true rfl) ?_
    refine ok_signIn ?_
    rw [e3]
    show V _ _ _ _ (_ :: _) _ _
    refine v_ireturn dX11_told_137 rfl (rfl) ?_
    first | (rw [if_pos (by omega), e] at hQ; exact hQ) | (rw [if_neg (by omega)] at hQ; exact hQ)
  · refine v_tableIn (tgt := 138) dX11_told_1 (by omega) (by omega) (by rw [e]; rfl) (by decide) ?_
    refine v_aload_n dX11_told_138 rfl ?_
    refine v_getR (q := 13) dX11_told_139 fl_RX11_29 rfl rfl ?_
    refine v_getI dX11_told_142 fl_RX11_114 rfl ?_
    rw [hp0]
    refine v_callS1 dX11_told_145 ms_RX11_156 (Nat.le_of_ble_eq_true rfl) ?_
    refine ok_heldIn ?_
    rw [e2]
    show V _ _ _ _ (_ :: _) _ _
    refine v_ireturn dX11_told_148 rfl (rfl) ?_
    first | (rw [if_pos (by omega), e] at hQ; exact hQ) | (rw [if_neg (by omega)] at hQ; exact hQ)
  · refine v_tableIn (tgt := 149) dX11_told_1 (by omega) (by omega) (by rw [e]; rfl) (by decide) ?_
    refine v_aload_n dX11_told_149 rfl ?_
    refine v_getR (q := 13) dX11_told_150 fl_RX11_29 rfl rfl ?_
    refine v_getI dX11_told_153 fl_RX11_114 rfl ?_
    rw [hp0]
    refine v_callS1 dX11_told_156 ms_RX11_159 (Nat.le_of_ble_eq_true rfl) ?_
    refine ok_isTyped ?_
    show V _ _ _ _ (_ :: _) _ _
    refine v_if_eq dX11_told_159 (fun zc159 => ?_) (fun zc159 => ?_)
    · rw [show ((if nI (ps s) &&& 65536 = 0 then (0 : Int32) else 1) = 0 ↔ s.2.2.2 = 0) by by_cases h : s.2.2.2 = 0; simp [e4, h]; simp [e4, h]] at zc159
      refine v_iconst dX11_told_166 ?_
      refine v_ireturn dX11_told_167 rfl (rfl) ?_
      rw [if_pos (by omega), e] at hQ
      have hQ2 : Q (some (.int (nI s.2.2.2))) σ := hQ
      first | (rw [show s.2.2.2 = 0 by omega] at hQ2; exact hQ2) | (rw [show s.2.2.2 = 1 by omega] at hQ2; exact hQ2)
    · rw [show ((if nI (ps s) &&& 65536 = 0 then (0 : Int32) else 1) = 0 ↔ s.2.2.2 = 0) by by_cases h : s.2.2.2 = 0; simp [e4, h]; simp [e4, h]] at zc159
      refine v_iconst dX11_told_162 ?_
      refine v_goto dX11_told_163 ?_
      refine v_ireturn dX11_told_167 rfl (rfl) ?_
      rw [if_pos (by omega), e] at hQ
      have hQ2 : Q (some (.int (nI s.2.2.2))) σ := hQ
      first | (rw [show s.2.2.2 = 0 by omega] at hQ2; exact hQ2) | (rw [show s.2.2.2 = 1 by omega] at hQ2; exact hQ2)
  · refine v_tableIn (tgt := 168) dX11_told_1 (by omega) (by omega) (by rw [e]; rfl) (by decide) ?_
    refine v_aload_n dX11_told_168 rfl ?_
    refine v_getR (q := 13) dX11_told_169 fl_RX11_29 rfl rfl ?_
    refine v_getI dX11_told_172 fl_RX11_117 rfl ?_
    refine v_ireturn dX11_told_175 rfl (rfl) ?_
    first | (rw [if_pos (by omega), e] at hQ; exact hQ) | (rw [if_neg (by omega)] at hQ; exact hQ)
  · refine v_tableIn (tgt := 176) dX11_told_1 (by omega) (by omega) (by rw [e]; rfl) (by decide) ?_
    refine v_aload_n dX11_told_176 rfl ?_
    refine v_getR (q := 13) dX11_told_177 fl_RX11_29 rfl rfl ?_
    refine v_getI dX11_told_180 fl_RX11_120 rfl ?_
    refine v_ireturn dX11_told_183 rfl (rfl) ?_
    first | (rw [if_pos (by omega), e] at hQ; exact hQ) | (rw [if_neg (by omega)] at hQ; exact hQ)
  · refine v_tableIn (tgt := 184) dX11_told_1 (by omega) (by omega) (by rw [e]; rfl) (by decide) ?_
    refine v_aload_n dX11_told_184 rfl ?_
    refine v_getR (q := 19) dX11_told_185 fl_RX11_42 rfl rfl ?_
    refine v_getI dX11_told_188 fl_RX11_123 rfl ?_
    refine v_ireturn dX11_told_191 rfl (rfl) ?_
    first | (rw [if_pos (by omega), e] at hQ; exact hQ) | (rw [if_neg (by omega)] at hQ; exact hQ)
  · refine v_tableOut (tgt := 192) dX11_told_1 e (by decide) ?_
    refine v_ldc dX11_told_192 cn_RX11_97 ?_
    refine v_ireturn dX11_told_194 rfl (rfl) ?_
    first | (rw [if_pos (by omega), e] at hQ; exact hQ) | (rw [if_neg (by omega)] at hQ; exact hQ)
theorem ok_cdrift {x : Int32} {sd : Nat} (hP : CP σ r R s) (hsd : σ.1 13 2 = nI sd) (hsd2 : sd < 2147483648) (h1 : ¬ (1 ≤ x.toInt ∧ x.toInt ≤ 999) → Q (some (.int OUT)) σ) (h2 : 1 ≤ x.toInt ∧ x.toInt ≤ 999 → R.2.2.2.2.length = 0 → Q (some (.int NOTN)) σ)
    (h3 : 1 ≤ x.toInt ∧ x.toInt ≤ 999 → 0 < R.2.2.2.2.length → Q (some (.int (nI (drS R x.toInt.toNat (s, σ.1 13 1, sd)).1.1))) (wChg (wP3 σ (drS R x.toInt.toNat (s, σ.1 13 1, sd))))) : Ok (D + 5) mX11_drift [.ref 0, .int x] σ Q := by
  obtain ⟨hr, hrk, hR, hv, hp0, hs⟩ := id hP
  have hm := hv.m100
  have hnk := hv.n9
  have hr12 : r + 4 < 13 ∧ 3 ≤ r := by rcases hr with rfl | rfl <;> omega
  obtain ⟨x1, x2⟩ := iz_rng x
  have hxe := iz_of x
  generalize hxi : x.toInt = xi at *
  subst hxe
  have loop : 1 ≤ xi ∧ xi ≤ 999 → 0 < R.2.2.2.2.length → ∀ j i (y : St × Int32 × Nat), i + j = xi.toNat → vS R.2.2.2.1 y.1 → y.2.2 < 2147483648 → drS R xi.toNat (s, σ.1 13 1, sd) = drS R j y → V mX11_drift (D + 5) 30 [some (.ref 0), some (.int (iz xi)), some (.int (nI i))] [] (wP3 σ y) Q := by
    intro hx hk0 j
    have hq := h3 hx hk0
    induction j with
    | zero =>
      intro i y hi hy hy2 he
      have he2 : drS R xi.toNat (s, σ.1 13 1, sd) = y := he
      rw [he2] at hq
      refine v_iload_n dX11_drift_30 rfl ?_
      refine v_iload_n dX11_drift_31 rfl ?_
      refine v_icmp_ge dX11_drift_32 (fun zc32 => ?_) (fun zc32 => ?_)
      · refine v_aload_n dX11_drift_66 rfl ?_
        refine v_callV0 dX11_drift_67 mv_RX11_128 rfl rfl (Nat.le_of_ble_eq_true rfl) ?_
        refine ok_stateChanged ?_
        show V _ _ _ _ _ _ _
        refine v_aload_n dX11_drift_70 rfl ?_
        refine v_getR (q := 13) dX11_drift_71 fl_RX11_29 rfl rfl ?_
        refine v_getI dX11_drift_74 fl_RX11_114 rfl ?_
        unfold wChg wP3
        rw [setI_ne (by omega), setI_ne (by omega), setI_ne (by omega), setI_ne (by omega), setI_ne (by omega), setI_ne (by omega), setI_same]
        refine v_callS1 dX11_drift_77 ms_RX11_149 (Nat.le_of_ble_eq_true rfl) ?_
        refine ok_shownIn ?_
        rw [ps_sh hm hy]
        show V _ _ _ _ (_ :: _) _ _
        refine v_ireturn dX11_drift_80 rfl (rfl) ?_
        exact hq
      · rw [iz_nI, iz_le (by omega) (by omega) (by omega) (by omega)] at zc32; exfalso; omega
    | succ j ih =>
      intro i y hi hy hy2 he
      have hkl : nSeed y.2.2 / 65536 % R.2.2.2.2.length < R.2.2.2.2.length := Nat.mod_lt _ hk0
      have he2 : drS R xi.toNat (s, σ.1 13 1, sd) = drS R j (nx R y.1 (nSeed y.2.2 / 65536 % R.2.2.2.2.length), y.2.1 + nI (R.2.2.2.2.getD (nSeed y.2.2 / 65536 % R.2.2.2.2.length) (0, 0, 0, 0)).2.1, nSeed y.2.2) := he
      have hsl : nSeed y.2.2 < 2147483648 := Nat.mod_lt _ (by decide)
      have hRR : ∀ z, RepR (setI (wP3 σ y) 13 2 z) r R := fun z => hR.kept (fun a b q1 q2 => by unfold wP3; rw [setI_ne (by omega), setI_ne (by omega), setI_ne (by omega), setI_ne (by omega)])
      have hrk2 : (wP3 σ y).2.2 0 1 = r := hrk
      have h44 : (wP3 σ y).1 r 4 = nI R.2.2.2.2.length := by unfold wP3; rw [setI_ne (by omega), setI_ne (by omega), setI_ne (by omega)]; exact hR.2.2.2.2.1
      have hky : R.2.2.2.2[nSeed y.2.2 / 65536 % R.2.2.2.2.length]? = some (R.2.2.2.2.getD (nSeed y.2.2 / 65536 % R.2.2.2.2.length) (0, 0, 0, 0)) := by rw [List.getD, List.getElem?_eq_getElem hkl]; rfl
      have hnx := ih (i + 1) (nx R y.1 (nSeed y.2.2 / 65536 % R.2.2.2.2.length), y.2.1 + nI (R.2.2.2.2.getD (nSeed y.2.2 / 65536 % R.2.2.2.2.length) (0, 0, 0, 0)).2.1, nSeed y.2.2) (by omega) (nx_v hv hkl hy) (by exact hsl) he2
      refine v_iload_n dX11_drift_30 rfl ?_
      refine v_iload_n dX11_drift_31 rfl ?_
      refine v_icmp_ge dX11_drift_32 (fun zc32 => ?_) (fun zc32 => ?_)
      · rw [iz_nI, iz_le (by omega) (by omega) (by omega) (by omega)] at zc32; exfalso; omega
      · refine v_aload_n dX11_drift_35 rfl ?_
        refine v_getR (q := 13) dX11_drift_36 fl_RX11_29 rfl rfl ?_
        refine v_aload_n dX11_drift_39 rfl ?_
        refine v_getM dX11_drift_40 fl_RX11_19 rfl ?_
        rw [hrk2]
        refine v_aload_n dX11_drift_43 rfl ?_
        refine v_getR (q := 13) dX11_drift_44 fl_RX11_29 rfl rfl ?_
        refine v_aload_n dX11_drift_47 rfl ?_
        refine v_getM dX11_drift_48 fl_RX11_19 rfl ?_
        rw [hrk2]
        refine v_getI dX11_drift_51 fl_RX11_146 hr.lay ?_
        rw [h44]
        refine v_callV1 dX11_drift_54 mv_RX11_280 rfl rfl (Nat.le_of_ble_eq_true rfl) ?_
        refine ok_draw hy2 (by unfold wP3; rw [setI_same]) hk0 (by omega) ?_
        show V _ _ _ _ (_ :: _) _ _
        refine v_callV2 dX11_drift_57 mv_RX11_184 rfl rfl (Nat.le_of_ble_eq_true rfl) ?_
        refine ok_strikeOnce hr (hRR _) (show 8 ≤ 9 by decide) hv hy hky (by rw [setI_ne (by omega)]; unfold wP3; rw [setI_ne (by omega), setI_ne (by omega), setI_same]) ?_
        show V _ _ _ _ _ _ _
        refine v_iinc dX11_drift_60 rfl (Nat.le_of_ble_eq_true rfl) rfl ?_
        refine v_goto dX11_drift_63 ?_
        rw [nI_1]
        refine Eq.mp (congrArg (fun w => V mX11_drift (D + 5) 30 [some (.ref 0), some (.int (iz xi)), some (.int (nI (i + 1)))] [] w Q) ?_) hnx
        refine (wP3_ext ?_ ?_ ?_ ?_ (by rfl)).symm
        · simp [setI_get]; rfl
        · simp [setI_get, wP3]
        · simp [setI_get]
        · intro a b h; rw [setI_ne (by omega), setI_ne (by omega), setI_ne (by omega)]; unfold wP3; rw [setI_ne (by omega), setI_ne (by omega), setI_ne (by omega)]
  have hw0 : wP3 σ (s, σ.1 13 1, sd) = σ := (wP3_ext hp0 rfl hsd (fun _ _ _ => rfl) rfl).symm
  refine ok_enter rfl (Nat.le_of_ble_eq_true rfl) ?_
  refine v_iload_n dX11_drift_0 rfl ?_
  refine v_iconst dX11_drift_1 ?_
  refine v_icmp_lt dX11_drift_2 (fun zc2 => ?_) (fun zc2 => ?_)
  · simp (disch := omega) only [iz_lit, iz_lt] at zc2
    refine v_ldc dX11_drift_12 cn_RX11_97 ?_
    refine v_ireturn dX11_drift_14 rfl (rfl) ?_
    exact h1 (by omega)
  · simp (disch := omega) only [iz_lit, iz_lt] at zc2
    refine v_iload_n dX11_drift_5 rfl ?_
    refine v_sipush dX11_drift_6 ?_
    refine v_icmp_le dX11_drift_9 (fun zc9 => ?_) (fun zc9 => ?_)
    · simp (disch := omega) only [iz_lit, iz_le] at zc9
      refine v_aload_n dX11_drift_15 rfl ?_
      refine v_getM dX11_drift_16 fl_RX11_19 rfl ?_
      rw [hrk]
      refine v_getI dX11_drift_19 fl_RX11_146 hr.lay ?_
      rw [hR.2.2.2.2.1]
      refine v_if_ne dX11_drift_22 (fun zc22 => ?_) (fun zc22 => ?_)
      · rw [show (0 : Int32) = nI 0 from rfl, nI_eq (by omega) (by omega)] at zc22
        refine v_iconst dX11_drift_28 ?_
        refine v_istore_n dX11_drift_29 (Nat.le_of_ble_eq_true rfl) rfl ?_
        have hl := loop (by omega) (by omega) xi.toNat 0 (s, σ.1 13 1, sd) (by omega) hs hsd2 rfl
        rw [hw0] at hl
        exact hl
      · rw [show (0 : Int32) = nI 0 from rfl, nI_eq (by omega) (by omega)] at zc22
        refine v_ldc dX11_drift_25 cn_RX11_208 ?_
        refine v_ireturn dX11_drift_27 rfl (rfl) ?_
        exact h2 (by omega) zc22
    · simp (disch := omega) only [iz_lit, iz_le] at zc9
      refine v_ldc dX11_drift_12 cn_RX11_97 ?_
      refine v_ireturn dX11_drift_14 rfl (rfl) ?_
      exact h1 (by omega)
theorem ok_mfault (hQ : Q (some (.int (σ.1 44 13))) σ) : Ok D mX12_fault [.ref 44] σ Q := by
  refine ok_enter rfl (Nat.le_of_ble_eq_true rfl) ?_
  refine v_aload_n dX12_fault_0 rfl ?_
  refine v_getI dX12_fault_1 fl_RX12_20 rfl ?_
  refine v_ireturn dX12_fault_4 rfl (rfl) ?_
  exact hQ
theorem ok_mtold {x : Int32} (hP : MP σ R s) (hQ : Q (some (.int (toldS x.toInt [iz R.1, nI R.2.1, nI R.2.2.1, nI R.2.2.2.1, nI R.2.2.2.2.length, σ.1 44 6, nI s.1, nI s.2.1, nI s.2.2.1, nI s.2.2.2, σ.1 44 25, σ.1 44 27, σ.1 44 29]))) σ) : Ok (D + 1) mX12_told [.ref 44, .int x] σ Q := by
  obtain ⟨hM, h4, hv, hS, hs⟩ := id hP
  obtain ⟨g1, g2, g3, g4⟩ := hS
  have hs5 := hs.2.2.2.2
  unfold toldS at hQ
  refine ok_enter rfl (Nat.le_of_ble_eq_true rfl) ?_
  refine v_iload_n dX12_told_0 rfl ?_
  rcases (show x.toInt = 0 ∨ x.toInt = 1 ∨ x.toInt = 2 ∨ x.toInt = 3 ∨ x.toInt = 4 ∨ x.toInt = 5 ∨ x.toInt = 6 ∨ x.toInt = 7 ∨ x.toInt = 8 ∨ x.toInt = 9 ∨ x.toInt = 10 ∨ x.toInt = 11 ∨ x.toInt = 12 ∨ (x.toInt < 0 ∨ 12 < x.toInt) by omega) with e | e | e | e | e | e | e | e | e | e | e | e | e | e
  · refine v_tableIn (tgt := 68) dX12_told_1 (by omega) (by omega) (by rw [e]; rfl) (by decide) ?_
    refine v_aload_n dX12_told_68 rfl ?_
    refine v_getI dX12_told_69 fl_RX12_7 rfl ?_
    rw [hM.1]
    refine v_ireturn dX12_told_72 rfl (rfl) ?_
    first | (rw [if_pos (by omega), e] at hQ; exact hQ) | (rw [if_neg (by omega)] at hQ; exact hQ)
  · refine v_tableIn (tgt := 73) dX12_told_1 (by omega) (by omega) (by rw [e]; rfl) (by decide) ?_
    refine v_aload_n dX12_told_73 rfl ?_
    refine v_getI dX12_told_74 fl_RX12_176 rfl ?_
    rw [hM.2.1]
    refine v_ireturn dX12_told_77 rfl (rfl) ?_
    first | (rw [if_pos (by omega), e] at hQ; exact hQ) | (rw [if_neg (by omega)] at hQ; exact hQ)
  · refine v_tableIn (tgt := 78) dX12_told_1 (by omega) (by omega) (by rw [e]; rfl) (by decide) ?_
    refine v_aload_n dX12_told_78 rfl ?_
    refine v_getI dX12_told_79 fl_RX12_179 rfl ?_
    rw [hM.2.2.1]
    refine v_ireturn dX12_told_82 rfl (rfl) ?_
    first | (rw [if_pos (by omega), e] at hQ; exact hQ) | (rw [if_neg (by omega)] at hQ; exact hQ)
  · refine v_tableIn (tgt := 83) dX12_told_1 (by omega) (by omega) (by rw [e]; rfl) (by decide) ?_
    refine v_aload_n dX12_told_83 rfl ?_
    refine v_getI dX12_told_84 fl_RX12_65 rfl ?_
    rw [hM.2.2.2.1]
    refine v_ireturn dX12_told_87 rfl (rfl) ?_
    first | (rw [if_pos (by omega), e] at hQ; exact hQ) | (rw [if_neg (by omega)] at hQ; exact hQ)
  · refine v_tableIn (tgt := 88) dX12_told_1 (by omega) (by omega) (by rw [e]; rfl) (by decide) ?_
    refine v_aload_n dX12_told_88 rfl ?_
    refine v_getI dX12_told_89 fl_RX12_182 rfl ?_
    rw [h4]
    refine v_ireturn dX12_told_92 rfl (rfl) ?_
    first | (rw [if_pos (by omega), e] at hQ; exact hQ) | (rw [if_neg (by omega)] at hQ; exact hQ)
  · refine v_tableIn (tgt := 93) dX12_told_1 (by omega) (by omega) (by rw [e]; rfl) (by decide) ?_
    refine v_aload_n dX12_told_93 rfl ?_
    refine v_getI dX12_told_94 fl_RX12_73 rfl ?_
    refine v_ireturn dX12_told_97 rfl (rfl) ?_
    first | (rw [if_pos (by omega), e] at hQ; exact hQ) | (rw [if_neg (by omega)] at hQ; exact hQ)
  · refine v_tableIn (tgt := 98) dX12_told_1 (by omega) (by omega) (by rw [e]; rfl) (by decide) ?_
    refine v_aload_n dX12_told_98 rfl ?_
    refine v_getI dX12_told_99 fl_RX12_197 rfl ?_
    rw [g1]
    refine v_ireturn dX12_told_102 rfl (rfl) ?_
    first | (rw [if_pos (by omega), e] at hQ; exact hQ) | (rw [if_neg (by omega)] at hQ; exact hQ)
  · refine v_tableIn (tgt := 103) dX12_told_1 (by omega) (by omega) (by rw [e]; rfl) (by decide) ?_
    refine v_aload_n dX12_told_103 rfl ?_
    refine v_getI dX12_told_104 fl_RX12_200 rfl ?_
    rw [g2]
    refine v_ireturn dX12_told_107 rfl (rfl) ?_
    first | (rw [if_pos (by omega), e] at hQ; exact hQ) | (rw [if_neg (by omega)] at hQ; exact hQ)
  · refine v_tableIn (tgt := 108) dX12_told_1 (by omega) (by omega) (by rw [e]; rfl) (by decide) ?_
    refine v_aload_n dX12_told_108 rfl ?_
    refine v_getI dX12_told_109 fl_RX12_203 rfl ?_
    rw [g3]
    refine v_ireturn dX12_told_112 rfl (rfl) ?_
    first | (rw [if_pos (by omega), e] at hQ; exact hQ) | (rw [if_neg (by omega)] at hQ; exact hQ)
  · refine v_tableIn (tgt := 113) dX12_told_1 (by omega) (by omega) (by rw [e]; rfl) (by decide) ?_
    refine v_aload_n dX12_told_113 rfl ?_
    refine v_getI dX12_told_114 fl_RX12_206 rfl ?_
    rw [g4]
    refine v_if_eq dX12_told_117 (fun zc117 => ?_) (fun zc117 => ?_)
    · rw [show (0 : Int32) = nI 0 from rfl, nI_eq (by omega) (by omega)] at zc117
      refine v_iconst dX12_told_124 ?_
      refine v_ireturn dX12_told_125 rfl (rfl) ?_
      rw [if_pos (by omega), e] at hQ
      have hQ2 : Q (some (.int (nI s.2.2.2))) σ := hQ
      first | (rw [show s.2.2.2 = 0 by omega] at hQ2; exact hQ2) | (rw [show s.2.2.2 = 1 by omega] at hQ2; exact hQ2)
    · rw [show (0 : Int32) = nI 0 from rfl, nI_eq (by omega) (by omega)] at zc117
      refine v_iconst dX12_told_120 ?_
      refine v_goto dX12_told_121 ?_
      refine v_ireturn dX12_told_125 rfl (rfl) ?_
      rw [if_pos (by omega), e] at hQ
      have hQ2 : Q (some (.int (nI s.2.2.2))) σ := hQ
      first | (rw [show s.2.2.2 = 0 by omega] at hQ2; exact hQ2) | (rw [show s.2.2.2 = 1 by omega] at hQ2; exact hQ2)
  · refine v_tableIn (tgt := 126) dX12_told_1 (by omega) (by omega) (by rw [e]; rfl) (by decide) ?_
    refine v_aload_n dX12_told_126 rfl ?_
    refine v_getI dX12_told_127 fl_RX12_188 rfl ?_
    refine v_ireturn dX12_told_130 rfl (rfl) ?_
    first | (rw [if_pos (by omega), e] at hQ; exact hQ) | (rw [if_neg (by omega)] at hQ; exact hQ)
  · refine v_tableIn (tgt := 131) dX12_told_1 (by omega) (by omega) (by rw [e]; rfl) (by decide) ?_
    refine v_aload_n dX12_told_131 rfl ?_
    refine v_getI dX12_told_132 fl_RX12_191 rfl ?_
    refine v_ireturn dX12_told_135 rfl (rfl) ?_
    first | (rw [if_pos (by omega), e] at hQ; exact hQ) | (rw [if_neg (by omega)] at hQ; exact hQ)
  · refine v_tableIn (tgt := 136) dX12_told_1 (by omega) (by omega) (by rw [e]; rfl) (by decide) ?_
    refine v_aload_n dX12_told_136 rfl ?_
    refine v_getI dX12_told_137 fl_RX12_194 rfl ?_
    refine v_ireturn dX12_told_140 rfl (rfl) ?_
    first | (rw [if_pos (by omega), e] at hQ; exact hQ) | (rw [if_neg (by omega)] at hQ; exact hQ)
  · refine v_tableOut (tgt := 141) dX12_told_1 e (by decide) ?_
    refine v_ldc dX12_told_141 cn_RX12_72 ?_
    refine v_ireturn dX12_told_143 rfl (rfl) ?_
    first | (rw [if_pos (by omega), e] at hQ; exact hQ) | (rw [if_neg (by omega)] at hQ; exact hQ)
theorem inK {x : Int} {n : Nat} : (0 ≤ x ∧ x ≤ (n : Int) - 1) ↔ (0 ≤ x ∧ x < (n : Int)) := by omega
theorem ok_mkey {x y : Int32} (hP : MP σ R s) (hQ : Q (some (.int (keyS R x.toInt y.toInt))) σ) : Ok (D + 1) mX12_key [.ref 44, .int x, .int y] σ Q := by
  obtain ⟨hM, h4, hv, hS, hs⟩ := id hP
  have hnk := hv.n9
  unfold keyS at hQ
  have fin : 0 ≤ x.toInt ∧ x.toInt < R.2.2.2.2.length → V mX12_key (D + 1) 17 [some (.ref 44), some (.int x), some (.int y)] [] σ Q := by
    intro hx
    rw [if_neg (fun h => h hx)] at hQ
    have hky : R.2.2.2.2[x.toInt.toNat]? = some (R.2.2.2.2.getD x.toInt.toNat (0, 0, 0, 0)) := by rw [List.getD, List.getElem?_eq_getElem (by omega)]; rfl
    obtain ⟨a1, a2, a3, a4⟩ := hM.cells hky (by rw [h4]; exact nI_lt (by omega) (by omega))
    refine v_iload_n dX12_key_17 rfl ?_
    refine v_iconst dX12_key_18 ?_
    refine v_iconst dX12_key_19 ?_
    refine v_callS3 dX12_key_20 ms_RX12_68 (Nat.le_of_ble_eq_true rfl) ?_
    refine ok_in ?_
    rw [iz_T0, show ((3 : Int32)).toInt = 3 from rfl]
    show V _ _ _ _ (_ :: _) _ _
    refine v_if_eq dX12_key_23 (fun zc23 => ?_) (fun zc23 => ?_)
    · have hy := if01 zc23
      refine v_ldc dX12_key_39 cn_RX12_72 ?_
      refine v_ireturn dX12_key_41 rfl (rfl) ?_
      first | (rw [if_neg (by omega), if_neg (by omega), if_neg (by omega), if_neg (by omega)] at hQ; exact hQ) | (rcases (show y.toInt = 0 ∨ y.toInt = 1 ∨ y.toInt = 2 ∨ y.toInt = 3 by omega) with e | e | e | e; (rw [if_pos e] at hQ; rw [e]; rw [← a1] at hQ; exact hQ); (rw [if_neg (by omega), if_pos e] at hQ; rw [e]; rw [← a2] at hQ; exact hQ); (rw [if_neg (by omega), if_neg (by omega), if_pos e] at hQ; rw [e]; rw [← a3] at hQ; exact hQ); (rw [if_neg (by omega), if_neg (by omega), if_neg (by omega), if_pos e] at hQ; rw [e]; rw [← a4] at hQ; exact hQ))
    · have hy := if10 zc23
      have ex : (4 : Int32) * x + y = nI (4 * x.toInt.toNat + y.toInt.toNat) := by
        conv => lhs; rw [x_nI hx.1, x_nI hy.1]
        rw [show (4 : Int32) = nI 4 from rfl, pk_mul, nI_add]
      refine v_aload_n dX12_key_26 rfl ?_
      refine v_getR (q := 45) dX12_key_27 fl_RX12_13 rfl rfl ?_
      refine v_iconst dX12_key_30 ?_
      refine v_iload_n dX12_key_31 rfl ?_
      refine v_imul dX12_key_32 ?_
      refine v_iload_n dX12_key_33 rfl ?_
      refine v_iadd dX12_key_34 ?_
      rw [ex]
      refine v_iaload dX12_key_35 rfl (by exact vp_in_nI (by omega) (by omega)) ?_
      rw [nI_clamp (by omega)]
      refine v_goto dX12_key_36 ?_
      refine v_ireturn dX12_key_41 rfl (rfl) ?_
      first | (rw [if_neg (by omega), if_neg (by omega), if_neg (by omega), if_neg (by omega)] at hQ; exact hQ) | (rcases (show y.toInt = 0 ∨ y.toInt = 1 ∨ y.toInt = 2 ∨ y.toInt = 3 by omega) with e | e | e | e; (rw [if_pos e] at hQ; rw [e]; rw [← a1] at hQ; exact hQ); (rw [if_neg (by omega), if_pos e] at hQ; rw [e]; rw [← a2] at hQ; exact hQ); (rw [if_neg (by omega), if_neg (by omega), if_pos e] at hQ; rw [e]; rw [← a3] at hQ; exact hQ); (rw [if_neg (by omega), if_neg (by omega), if_neg (by omega), if_pos e] at hQ; rw [e]; rw [← a4] at hQ; exact hQ))
  refine ok_enter rfl (Nat.le_of_ble_eq_true rfl) ?_
  refine v_iload_n dX12_key_0 rfl ?_
  refine v_iconst dX12_key_1 ?_
  refine v_aload_n dX12_key_2 rfl ?_
  refine v_getI dX12_key_3 fl_RX12_182 rfl ?_
  rw [h4]
  refine v_iconst dX12_key_6 ?_
  refine v_isub dX12_key_7 ?_
  rw [show nI R.2.2.2.2.length - 1 = iz ((R.2.2.2.2.length : Int) - 1) by rw [iz_nI, show (1 : Int32) = iz 1 from rfl, iz_sub]]
  refine v_callS3 dX12_key_8 ms_RX12_68 (Nat.le_of_ble_eq_true rfl) ?_
  refine ok_in ?_
  rw [iz_T0, iz_toInt (by omega) (by omega)]
  simp only [inK]
  show V _ _ _ _ (_ :: _) _ _
  refine v_if_ne dX12_key_11 (fun zc11 => ?_) (fun zc11 => ?_)
  · exact fin (if10 zc11)
  · rw [if_pos (if01 zc11)] at hQ
    refine v_ldc dX12_key_14 cn_RX12_210 ?_
    refine v_ireturn dX12_key_16 rfl (rfl) ?_
    exact hQ
end T1
