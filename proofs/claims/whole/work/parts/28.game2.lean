/-! ===== the game: the class's call, the reference's table and call ===== -/
def OutFr (k : Nat) (σ τ : Wd) : Prop := (∀ a b, a ≠ k → τ.1 a b = σ.1 a b) ∧ τ.2 = σ.2
def gAns (R : Rk) (s : St) (x y z : Int) : Int32 := if ¬ (0 ≤ x ∧ x < R.2.2.2.1) ∨ y < 0 ∨ 6 < y ∨ z < 0 ∨ 1 < z then OUT else if z = 0 then iz (gW R x.toNat y.toNat s) else iz (if y.toNat = 0 then -1 else gI R x.toNat (gW R x.toNat (y.toNat - 1)) s R.2.2.2.2.length)
section G2
variable {D : Nat} {σ τ : Wd} {Q : Option Value → Wd → Prop} {R : Rk} {s : St} {r g n : Nat} {f : St → Int}
theorem nI_of_iz {z : Int} (h : 0 ≤ z) : iz z = nI z.toNat := iz_toN h
theorem ok_cgame {x y z : Int32} (hP : CP σ r R s) (hQ : ∀ τ, OutFr 43 σ τ → Q (some (.int (gAns R s x.toInt y.toInt z.toInt))) τ) : Ok (D + 21) mX11_game [.ref 0, .int x, .int y, .int z] σ Q := by
  obtain ⟨hr, hrk, hR, hv, hp0, hs⟩ := id hP
  have hm := hv.m100
  obtain ⟨x1, x2⟩ := iz_rng x
  have hxe := iz_of x
  generalize hxi : x.toInt = xi at *
  subst hxe
  obtain ⟨y1, y2⟩ := iz_rng y
  have hye := iz_of y
  generalize hyi : y.toInt = yi at *
  subst hye
  obtain ⟨z1, z2⟩ := iz_rng z
  have hze := iz_of z
  generalize hzi : z.toInt = zi at *
  subst hze
  unfold gAns at hQ
  have out : (¬ (0 ≤ xi ∧ xi < R.2.2.2.1) ∨ yi < 0 ∨ 6 < yi ∨ zi < 0 ∨ 1 < zi) → Q (some (.int OUT)) σ := fun h => by
    have := hQ σ ⟨fun _ _ _ => rfl, rfl⟩
    rw [if_pos h] at this
    exact this
  refine ok_enter rfl (Nat.le_of_ble_eq_true rfl) ?_
  refine v_aload_n dX11_game_0 rfl ?_
  refine v_iload_n dX11_game_1 rfl ?_
  refine v_callV1 dX11_game_2 mv_RX11_188 rfl rfl (Nat.le_of_ble_eq_true rfl) ?_
  refine ok_isOnDial hr hrk hR.2.2.2.1 hm ?_
  rw [hxi]
  show V _ _ _ _ (_ :: _) _ _
  refine v_if_eq dX11_game_5 (fun zc5 => ?_) (fun zc5 => ?_)
  · have hx : ¬ (0 ≤ xi ∧ xi < R.2.2.2.1) := fun h => by rw [if_pos h] at zc5; exact absurd zc5 (by decide)
    refine v_ldc dX11_game_27 cn_RX11_97 ?_
    refine v_ireturn dX11_game_29 rfl (rfl) ?_
    exact out (by omega)
  · have hx : 0 ≤ xi ∧ xi < R.2.2.2.1 := by
      by_cases h : 0 ≤ xi ∧ xi < (R.2.2.2.1 : Int)
      · exact h
      · rw [if_neg h] at zc5; exact absurd rfl zc5
    refine v_iload_n dX11_game_8 rfl ?_
    refine v_if_lt dX11_game_9 (fun zc9 => ?_) (fun zc9 => ?_)
    · simp (disch := omega) only [iz_lit, iz_lt] at zc9
      refine v_ldc dX11_game_27 cn_RX11_97 ?_
      refine v_ireturn dX11_game_29 rfl (rfl) ?_
      exact out (by omega)
    · simp (disch := omega) only [iz_lit, iz_lt] at zc9
      refine v_iload_n dX11_game_12 rfl ?_
      refine v_bipush dX11_game_13 ?_
      refine v_icmp_gt dX11_game_15 (fun zc15 => ?_) (fun zc15 => ?_)
      · simp (disch := omega) only [iz_lit, iz_lt] at zc15
        refine v_ldc dX11_game_27 cn_RX11_97 ?_
        refine v_ireturn dX11_game_29 rfl (rfl) ?_
        exact out (by omega)
      · simp (disch := omega) only [iz_lit, iz_lt] at zc15
        refine v_iload_n dX11_game_18 rfl ?_
        refine v_if_lt dX11_game_19 (fun zc19 => ?_) (fun zc19 => ?_)
        · simp (disch := omega) only [iz_lit, iz_lt] at zc19
          refine v_ldc dX11_game_27 cn_RX11_97 ?_
          refine v_ireturn dX11_game_29 rfl (rfl) ?_
          exact out (by omega)
        · simp (disch := omega) only [iz_lit, iz_lt] at zc19
          refine v_iload_n dX11_game_22 rfl ?_
          refine v_iconst dX11_game_23 ?_
          refine v_icmp_le dX11_game_24 (fun zc24 => ?_) (fun zc24 => ?_)
          · simp (disch := omega) only [iz_lit, iz_le] at zc24
            refine v_aload_n dX11_game_30 rfl ?_
            refine v_getR (q := 43) dX11_game_31 fl_RX11_93 rfl rfl ?_
            refine v_aload_n dX11_game_34 rfl ?_
            refine v_getM dX11_game_35 fl_RX11_19 rfl ?_
            rw [hrk]
            refine v_aload_n dX11_game_38 rfl ?_
            refine v_getR (q := 13) dX11_game_39 fl_RX11_29 rfl rfl ?_
            refine v_getI dX11_game_42 fl_RX11_114 rfl ?_
            rw [hp0]
            refine v_iload_n dX11_game_45 rfl ?_
            refine v_iload_n dX11_game_46 rfl ?_
            rw [nI_of_iz hx.1, nI_of_iz (show 0 ≤ yi by omega)]
            refine v_callV4 dX11_game_47 mv_RX11_264 rfl rfl (Nat.le_of_ble_eq_true rfl) ?_
            refine ok_play hr hR hv (by omega) (by omega) (by omega) hs ?_
            show V _ _ _ _ _ _ _
            refine v_iload_n dX11_game_50 rfl ?_
            refine v_if_ne dX11_game_51 (fun zc51 => ?_) (fun zc51 => ?_)
            · simp (disch := omega) only [iz_lit, iz_eq] at zc51
              refine v_aload_n dX11_game_64 rfl ?_
              refine v_getR (q := 43) dX11_game_65 fl_RX11_93 rfl rfl ?_
              refine v_getI dX11_game_68 fl_RX11_270 rfl ?_
              rw [setI_same]
              refine v_ireturn dX11_game_71 rfl (rfl) ?_
              have h9 := hQ (setI (setI σ 43 0 (iz (gW R xi.toNat yi.toNat s))) 43 1 (iz (if yi.toNat = 0 then -1 else gI R xi.toNat (gW R xi.toNat (yi.toNat - 1)) s R.2.2.2.2.length))) ⟨fun a b h => by rw [setI_ne (by omega), setI_ne (by omega)], rfl⟩
              rw [if_neg (by omega)] at h9
              first | (rw [if_pos zc51] at h9; exact h9) | (rw [if_neg zc51] at h9; exact h9)
            · simp (disch := omega) only [iz_lit, iz_eq] at zc51
              refine v_aload_n dX11_game_54 rfl ?_
              refine v_getR (q := 43) dX11_game_55 fl_RX11_93 rfl rfl ?_
              refine v_getI dX11_game_58 fl_RX11_267 rfl ?_
              rw [setI_ne (by omega), setI_same]
              refine v_goto dX11_game_61 ?_
              refine v_ireturn dX11_game_71 rfl (rfl) ?_
              have h9 := hQ (setI (setI σ 43 0 (iz (gW R xi.toNat yi.toNat s))) 43 1 (iz (if yi.toNat = 0 then -1 else gI R xi.toNat (gW R xi.toNat (yi.toNat - 1)) s R.2.2.2.2.length))) ⟨fun a b h => by rw [setI_ne (by omega), setI_ne (by omega)], rfl⟩
              rw [if_neg (by omega)] at h9
              first | (rw [if_pos zc51] at h9; exact h9) | (rw [if_neg zc51] at h9; exact h9)
          · simp (disch := omega) only [iz_lit, iz_le] at zc24
            refine v_ldc dX11_game_27 cn_RX11_97 ?_
            refine v_ireturn dX11_game_29 rfl (rfl) ?_
            exact out (by omega)
theorem ok_mworth {c : Nat} (h3 : σ.1 44 3 = nI R.2.2.2.1) (hm : 0 < R.2.2.2.1) (hm2 : R.2.2.2.1 ≤ 100) (hc : c < 80000) (hg : g < 100) (hsh : (mdec R.2.2.2.1 c).1 < 100) (hQ : Q (some (.int (if (mdec R.2.2.2.1 c).1 = g then 1 else - σ.1 54 c))) σ) : Ok (D + 1) mX12_worth [.ref 44, .int (nI c), .int (nI g)] σ Q := by
  refine ok_enter rfl (Nat.le_of_ble_eq_true rfl) ?_
  refine v_aload_n dX12_worth_0 rfl ?_
  refine v_iload_n dX12_worth_1 rfl ?_
  refine v_callV1 dX12_worth_2 mv_RX12_236 rfl rfl (Nat.le_of_ble_eq_true rfl) ?_
  refine ok_mshownIn h3 hm hm2 hc ?_
  show V _ _ _ _ (_ :: _) _ _
  refine v_iload_n dX12_worth_5 rfl ?_
  refine v_icmp_ne dX12_worth_6 (fun zc6 => ?_) (fun zc6 => ?_)
  · rw [nI_eq (by omega) (by omega)] at zc6
    refine v_aload_n dX12_worth_13 rfl ?_
    refine v_getR (q := 54) dX12_worth_14 fl_RX12_47 rfl rfl ?_
    refine v_iload_n dX12_worth_17 rfl ?_
    refine v_iaload dX12_worth_18 rfl (by exact vp_in_nI (by omega) (by omega)) ?_
    rw [nI_clamp (by omega)]
    refine v_ineg dX12_worth_19 ?_
    refine v_ireturn dX12_worth_20 rfl (rfl) ?_
    first | (rw [if_pos zc6] at hQ; exact hQ) | (rw [if_neg zc6] at hQ; exact hQ)
  · rw [nI_eq (by omega) (by omega)] at zc6
    refine v_iconst dX12_worth_9 ?_
    refine v_goto dX12_worth_10 ?_
    refine v_ireturn dX12_worth_20 rfl (rfl) ?_
    first | (rw [if_pos zc6] at hQ; exact hQ) | (rw [if_neg zc6] at hQ; exact hQ)
def GFr (σ τ : Wd) : Prop := (∀ a b, ¬ (a = 53 ∨ a = 54 ∨ (a = 44 ∧ 21 ≤ b ∧ b ≤ 24)) → τ.1 a b = σ.1 a b) ∧ τ.2 = σ.2
theorem GFr.set {a b : Nat} {x : Int32} (h : GFr σ τ) (ha : a = 53 ∨ a = 54) : GFr σ (setI τ a b x) := ⟨fun u v hh => by rw [setI_ne (by omega)]; exact h.1 u v hh, h.2⟩
theorem GFr.putS {t : St} (h : GFr σ τ) : GFr σ (putS τ t) := ⟨fun u v hh => by rw [putS_o (by omega)]; exact h.1 u v hh, h.2⟩
theorem nx_w {k : Nat} (hR : vR n R) (hk : k < R.2.2.2.2.length) (hs : wS R.2.2.2.1 s) : wS R.2.2.2.1 (nx R s k) := by
  unfold nx
  rw [List.getD, List.getElem?_eq_getElem hk]
  exact rk_str_w hR (List.getElem_mem hk) hs
set_option maxHeartbeats 4000000 in
theorem ok_layGame {N : Nat} (hM : RepM σ R) (h4 : σ.1 44 4 = nI R.2.2.2.2.length) (hv : vR 8 R) (hm : 0 < R.2.2.2.1) (hk0 : 0 < R.2.2.2.2.length) (hg : g < R.2.2.2.1) (hN : N < 7)
    (hQ : ∀ τ, GFr σ τ → (∀ c, c < 8 * R.2.2.2.1 * R.2.2.2.1 → τ.1 53 c = iz (gW R g N (mdec R.2.2.2.1 c)) ∧ (0 < N → τ.1 54 c = iz (gW R g (N - 1) (mdec R.2.2.2.1 c)))) → Q none τ) : Ok (D + 4) mX12_layGame [.ref 44, .int (nI g), .int (nI N)] σ Q := by
  have hm2 := hv.m100
  have hnk := hv.n9
  have h8 := mm_le hm2
  have hMt : ∀ τ, GFr σ τ → RepM τ R := fun τ h => hM.kept (fun b hb => h.1 _ _ (by omega)) (fun b => h.1 _ _ (by omega))
  have h4t : ∀ τ, GFr σ τ → τ.1 44 4 = nI R.2.2.2.2.length := fun τ h => by rw [h.1 _ _ (by omega)]; exact h4
  -- the keys, for one state
  have keys : ∀ i, i < N → ∀ c, c < 8 * R.2.2.2.1 * R.2.2.2.1 → ∀ τ0, GFr σ τ0 → (∀ c', c' < 8 * R.2.2.2.1 * R.2.2.2.1 → τ0.1 54 c' = iz (gW R g i (mdec R.2.2.2.1 c'))) →
      (∀ τ' x5 x6, GFr σ τ' → (∀ c', τ'.1 54 c' = τ0.1 54 c') → (∀ c', c' ≠ c → τ'.1 53 c' = τ0.1 53 c') → τ'.1 53 c = iz (gW R g (i + 1) (mdec R.2.2.2.1 c)) → V mX12_layGame (D + 4) 157 [some (.ref 44), some (.int (nI g)), some (.int (nI N)), some (.int (nI i)), some (.int (nI c)), some x5, x6] [] τ' Q) →
      ∀ j k τ, k + j = R.2.2.2.2.length → GFr σ τ → (∀ c', τ.1 54 c' = τ0.1 54 c') → (∀ c', c' ≠ c → τ.1 53 c' = τ0.1 53 c') → τ.1 53 c = iz (gB R g (gW R g i) (mdec R.2.2.2.1 c) k) → ∀ x6, V mX12_layGame (D + 4) 85 [some (.ref 44), some (.int (nI g)), some (.int (nI N)), some (.int (nI i)), some (.int (nI c)), some (.int (nI k)), x6] [] τ Q := by
    intro i hi c hc τ0 hF0 hl0 next j
    have hf := fun t => gW_rng (R := R) (g := g) i t
    have e0 : gW R g (i + 1) (mdec R.2.2.2.1 c) = gB R g (gW R g i) (mdec R.2.2.2.1 c) R.2.2.2.2.length := by show (if _ then _ else _) = _; rw [if_neg (by omega)]
    have hw := mdec_w hm hc
    induction j with
    | zero =>
      intro k τ hk hF g1 g2 g3 x6
      have hk2 : k = R.2.2.2.2.length := by omega
      subst hk2
      have h44 := h4t τ hF
      refine v_iload dX12_layGame_85 rfl ?_
      refine v_aload_n dX12_layGame_87 rfl ?_
      refine v_getI dX12_layGame_88 fl_RX12_182 rfl ?_
      rw [h44]
      refine v_icmp_ge dX12_layGame_91 (fun zc91 => ?_) (fun zc91 => ?_)
      · exact next τ _ _ hF g1 g2 (by rw [e0]; exact g3)
      · exact absurd (nI_le (Nat.le_refl _) (by omega)) zc91
    | succ j ih =>
      intro k τ hk hF g1 g2 g3 x6
      have h44 := h4t τ hF
      have hMM := hMt τ hF
      have b1 := gB_rng (R := R) (g := g) (s := mdec R.2.2.2.1 c) hf k
      have b2 := gK_rng (R := R) (g := g) (s := mdec R.2.2.2.1 c) hf k
      have hky : R.2.2.2.2[k]? = some (R.2.2.2.2.getD k (0, 0, 0, 0)) := by rw [List.getD, List.getElem?_eq_getElem (by omega)]; rfl
      have hnw := nx_w hv (show k < R.2.2.2.2.length by omega) hw
      have hcn := mc_lt hm hnw
      have hdn := mdec_mc hm hnw
      have hsl := hnw.1
      have hgk : (if (mdec R.2.2.2.1 (mc R.2.2.2.1 (nx R (mdec R.2.2.2.1 c) k))).1 = g then (1 : Int32) else - (putS τ (nx R (mdec R.2.2.2.1 c) k)).1 54 (mc R.2.2.2.1 (nx R (mdec R.2.2.2.1 c) k))) = iz (gK R g (gW R g i) (mdec R.2.2.2.1 c) k) := by
        rw [putS_o (by omega), g1, hl0 _ hcn, hdn]
        unfold gK
        split
        · rfl
        · rw [iz_neg]
      have hnx : ∀ τ', GFr σ τ' → (∀ c', τ'.1 54 c' = τ0.1 54 c') → (∀ c', c' ≠ c → τ'.1 53 c' = τ0.1 53 c') → τ'.1 53 c = iz (max (gB R g (gW R g i) (mdec R.2.2.2.1 c) k) (gK R g (gW R g i) (mdec R.2.2.2.1 c) k)) → _ := fun τ' q1 q2 q3 q4 => ih (k + 1) τ' (by omega) q1 q2 q3 q4
      refine v_iload dX12_layGame_85 rfl ?_
      refine v_aload_n dX12_layGame_87 rfl ?_
      refine v_getI dX12_layGame_88 fl_RX12_182 rfl ?_
      rw [h44]
      refine v_icmp_ge dX12_layGame_91 (fun zc91 => ?_) (fun zc91 => ?_)
      · exact absurd zc91 (nI_ge (by omega) (by omega))
      · refine v_aload_n dX12_layGame_94 rfl ?_
        refine v_getR (q := 53) dX12_layGame_95 fl_RX12_44 rfl rfl ?_
        refine v_iload dX12_layGame_98 rfl ?_
        refine v_iaload dX12_layGame_100 rfl (by exact vp_in_nI (by omega) (by omega)) ?_
        rw [nI_clamp (by omega), g3]
        refine v_iconst dX12_layGame_101 ?_
        refine v_icmp_ge dX12_layGame_102 (fun zc102 => ?_) (fun zc102 => ?_)
        · simp (disch := omega) only [iz_lit, iz_le] at zc102
          refine next τ _ _ hF g1 g2 ?_
          rw [e0, ← hk, gB_top hf (show gB R g (gW R g i) (mdec R.2.2.2.1 c) k = 1 by omega), g3, show gB R g (gW R g i) (mdec R.2.2.2.1 c) k = 1 by omega]
        · simp (disch := omega) only [iz_lit, iz_le] at zc102
          refine v_aload_n dX12_layGame_105 rfl ?_
          refine v_aload_n dX12_layGame_106 rfl ?_
          refine v_iload dX12_layGame_107 rfl ?_
          refine v_iload dX12_layGame_109 rfl ?_
          refine v_callV2 dX12_layGame_111 mv_RX12_239 rfl rfl (Nat.le_of_ble_eq_true rfl) ?_
          refine ok_behind hMM (show 8 ≤ 9 by decide) hv hky hc ?_
          rw [show rk_str R (mdec R.2.2.2.1 c) (R.2.2.2.2.getD k (0, 0, 0, 0)) = nx R (mdec R.2.2.2.1 c) k from rfl]
          show V _ _ _ _ (_ :: _) _ _
          refine v_iload_n dX12_layGame_114 rfl ?_
          refine v_callV2 dX12_layGame_115 mv_RX12_292 rfl rfl (Nat.le_of_ble_eq_true rfl) ?_
          refine ok_mworth hMM.putS.2.2.2.1 hm hm2 (by omega) (by omega) (by rw [hdn]; omega) ?_
          rw [hgk]
          show V _ _ _ _ (_ :: _) _ _
          refine v_istore dX12_layGame_118 (Nat.le_of_ble_eq_true rfl) rfl ?_
          refine v_aload_n dX12_layGame_120 rfl ?_
          refine v_getR (q := 53) dX12_layGame_121 fl_RX12_44 rfl rfl ?_
          refine v_iload dX12_layGame_124 rfl ?_
          refine v_iload dX12_layGame_126 rfl ?_
          refine v_aload_n dX12_layGame_128 rfl ?_
          refine v_getR (q := 53) dX12_layGame_129 fl_RX12_44 rfl rfl ?_
          refine v_iload dX12_layGame_132 rfl ?_
          refine v_iaload dX12_layGame_134 rfl (by exact vp_in_nI (by omega) (by omega)) ?_
          rw [nI_clamp (by omega), putS_o (by omega), g3]
          refine v_icmp_le dX12_layGame_135 (fun zc135 => ?_) (fun zc135 => ?_)
          · rw [iz_le (by omega) (by omega) (by omega) (by omega)] at zc135
            refine v_aload_n dX12_layGame_143 rfl ?_
            refine v_getR (q := 53) dX12_layGame_144 fl_RX12_44 rfl rfl ?_
            refine v_iload dX12_layGame_147 rfl ?_
            refine v_iaload dX12_layGame_149 rfl (by exact vp_in_nI (by omega) (by omega)) ?_
            rw [nI_clamp (by omega), putS_o (by omega), g3]
            refine v_iastore dX12_layGame_150 rfl (by exact vp_in_nI (by omega) (by omega)) ?_
            rw [nI_clamp (by omega)]
            refine v_iinc dX12_layGame_151 rfl (Nat.le_of_ble_eq_true rfl) rfl ?_
            refine v_goto dX12_layGame_154 ?_
            rw [nI_1]
            refine hnx _ (hF.putS.set (by omega)) (fun c' => by rw [setI_ne (by omega), putS_o (by omega)]; exact g1 c') (fun c' hc' => by rw [setI_ne (by omega), putS_o (by omega)]; exact g2 c' hc') ?_ _
            rw [setI_same]
            congr 1
            omega
          · rw [iz_le (by omega) (by omega) (by omega) (by omega)] at zc135
            refine v_iload dX12_layGame_138 rfl ?_
            refine v_goto dX12_layGame_140 ?_
            refine v_iastore dX12_layGame_150 rfl (by exact vp_in_nI (by omega) (by omega)) ?_
            rw [nI_clamp (by omega)]
            refine v_iinc dX12_layGame_151 rfl (Nat.le_of_ble_eq_true rfl) rfl ?_
            refine v_goto dX12_layGame_154 ?_
            rw [nI_1]
            refine hnx _ (hF.putS.set (by omega)) (fun c' => by rw [setI_ne (by omega), putS_o (by omega)]; exact g1 c') (fun c' hc' => by rw [setI_ne (by omega), putS_o (by omega)]; exact g2 c' hc') ?_ _
            rw [setI_same]
            congr 1
            omega
  -- the states, for one stroke more
  have states : ∀ i, i < N → (∀ τ' x4 x5 x6, GFr σ τ' → (∀ c', c' < 8 * R.2.2.2.1 * R.2.2.2.1 → τ'.1 53 c' = iz (gW R g (i + 1) (mdec R.2.2.2.1 c')) ∧ τ'.1 54 c' = iz (gW R g i (mdec R.2.2.2.1 c'))) → V mX12_layGame (D + 4) 163 [some (.ref 44), some (.int (nI g)), some (.int (nI N)), some (.int (nI i)), some x4, x5, x6] [] τ' Q) →
      ∀ j c τ, c + j = 8 * R.2.2.2.1 * R.2.2.2.1 → GFr σ τ → (∀ c', c' < 8 * R.2.2.2.1 * R.2.2.2.1 → τ.1 54 c' = iz (gW R g i (mdec R.2.2.2.1 c'))) → (∀ c', c' < c → τ.1 53 c' = iz (gW R g (i + 1) (mdec R.2.2.2.1 c'))) → ∀ x5 x6, V mX12_layGame (D + 4) 65 [some (.ref 44), some (.int (nI g)), some (.int (nI N)), some (.int (nI i)), some (.int (nI c)), x5, x6] [] τ Q := by
    intro i hi next j
    induction j with
    | zero =>
      intro c τ hc hF g1 g2 x5 x6
      have h33 := (hMt τ hF).2.2.2.1
      refine v_iload dX12_layGame_65 rfl ?_
      refine v_aload_n dX12_layGame_67 rfl ?_
      refine v_callV0 dX12_layGame_68 mv_RX12_233 rfl rfl (Nat.le_of_ble_eq_true rfl) ?_
      refine ok_states h33 ?_
      show V _ _ _ _ (_ :: _) _ _
      refine v_icmp_ge dX12_layGame_71 (fun zc71 => ?_) (fun zc71 => ?_)
      · exact next τ _ _ _ hF (fun c' hc' => ⟨g2 c' (by omega), g1 c' hc'⟩)
      · exact absurd (nI_le (by omega) (by omega)) zc71
    | succ j ih =>
      intro c τ hc hF g1 g2 x5 x6
      have h33 := (hMt τ hF).2.2.2.1
      have hnx := keys i hi c (by omega) (setI τ 53 c (-1)) (hF.set (by omega)) (fun c' hc' => by rw [setI_ne (by omega)]; exact g1 c' hc') (fun τ' y5 y6 q1 q2 q3 q4 => by
        have hgo := ih (c + 1) τ' (by omega) q1 (fun c' hc' => by rw [q2, setI_ne (by omega)]; exact g1 c' hc') (fun c' hc' => by
          rcases Nat.lt_or_ge c' c with h | h
          · rw [q3 c' (by omega), setI_ne (by omega)]; exact g2 c' h
          · rw [show c' = c by omega]; exact q4)
        refine v_iinc dX12_layGame_157 rfl (Nat.le_of_ble_eq_true rfl) rfl ?_
        refine v_goto dX12_layGame_160 ?_
        rw [nI_1]
        exact hgo _ _) R.2.2.2.2.length 0 (setI τ 53 c (-1)) (by omega) (hF.set (by omega)) (fun _ => rfl) (fun _ _ => rfl) (by rw [setI_same]; rfl)
      refine v_iload dX12_layGame_65 rfl ?_
      refine v_aload_n dX12_layGame_67 rfl ?_
      refine v_callV0 dX12_layGame_68 mv_RX12_233 rfl rfl (Nat.le_of_ble_eq_true rfl) ?_
      refine ok_states h33 ?_
      show V _ _ _ _ (_ :: _) _ _
      refine v_icmp_ge dX12_layGame_71 (fun zc71 => ?_) (fun zc71 => ?_)
      · exact absurd zc71 (nI_ge (by omega) (by omega))
      · refine v_aload_n dX12_layGame_74 rfl ?_
        refine v_getR (q := 53) dX12_layGame_75 fl_RX12_44 rfl rfl ?_
        refine v_iload dX12_layGame_78 rfl ?_
        refine v_iconst dX12_layGame_80 ?_
        refine v_iastore dX12_layGame_81 rfl (by exact vp_in_nI (by omega) (by omega)) ?_
        rw [nI_clamp (by omega)]
        refine v_iconst dX12_layGame_82 ?_
        refine v_istore dX12_layGame_83 (Nat.le_of_ble_eq_true rfl) rfl ?_
        exact hnx _
  -- the copy
  have copy : ∀ i, (∀ τ' x4 x5 x6, GFr σ τ' → (∀ c', c' < 8 * R.2.2.2.1 * R.2.2.2.1 → τ'.1 54 c' = iz (gW R g i (mdec R.2.2.2.1 c'))) → V mX12_layGame (D + 4) 62 [some (.ref 44), some (.int (nI g)), some (.int (nI N)), some (.int (nI i)), some x4, x5, x6] [] τ' Q) →
      ∀ j c τ, c + j = 8 * R.2.2.2.1 * R.2.2.2.1 → GFr σ τ → (∀ c', c' < 8 * R.2.2.2.1 * R.2.2.2.1 → τ.1 53 c' = iz (gW R g i (mdec R.2.2.2.1 c'))) → (∀ c', c' < c → τ.1 54 c' = iz (gW R g i (mdec R.2.2.2.1 c'))) → ∀ x5 x6, V mX12_layGame (D + 4) 33 [some (.ref 44), some (.int (nI g)), some (.int (nI N)), some (.int (nI i)), some (.int (nI c)), x5, x6] [] τ Q := by
    intro i next j
    induction j with
    | zero =>
      intro c τ hc hF g1 g2 x5 x6
      have h33 := (hMt τ hF).2.2.2.1
      refine v_iload dX12_layGame_33 rfl ?_
      refine v_aload_n dX12_layGame_35 rfl ?_
      refine v_callV0 dX12_layGame_36 mv_RX12_233 rfl rfl (Nat.le_of_ble_eq_true rfl) ?_
      refine ok_states h33 ?_
      show V _ _ _ _ (_ :: _) _ _
      refine v_icmp_ge dX12_layGame_39 (fun zc39 => ?_) (fun zc39 => ?_)
      · exact next τ _ _ _ hF (fun c' hc' => g2 c' (by omega))
      · exact absurd (nI_le (by omega) (by omega)) zc39
    | succ j ih =>
      intro c τ hc hF g1 g2 x5 x6
      have h33 := (hMt τ hF).2.2.2.1
      have hgo := ih (c + 1) (setI τ 54 c (τ.1 53 c)) (by omega) (hF.set (by omega)) (fun c' hc' => by rw [setI_ne (by omega)]; exact g1 c' hc') (fun c' hc' => by
        rcases Nat.lt_or_ge c' c with h | h
        · rw [setI_ne (by omega)]; exact g2 c' h
        · rw [show c' = c by omega, setI_same]; exact g1 c (by omega))
      refine v_iload dX12_layGame_33 rfl ?_
      refine v_aload_n dX12_layGame_35 rfl ?_
      refine v_callV0 dX12_layGame_36 mv_RX12_233 rfl rfl (Nat.le_of_ble_eq_true rfl) ?_
      refine ok_states h33 ?_
      show V _ _ _ _ (_ :: _) _ _
      refine v_icmp_ge dX12_layGame_39 (fun zc39 => ?_) (fun zc39 => ?_)
      · exact absurd zc39 (nI_ge (by omega) (by omega))
      · refine v_aload_n dX12_layGame_42 rfl ?_
        refine v_getR (q := 54) dX12_layGame_43 fl_RX12_47 rfl rfl ?_
        refine v_iload dX12_layGame_46 rfl ?_
        refine v_aload_n dX12_layGame_48 rfl ?_
        refine v_getR (q := 53) dX12_layGame_49 fl_RX12_44 rfl rfl ?_
        refine v_iload dX12_layGame_52 rfl ?_
        refine v_iaload dX12_layGame_54 rfl (by exact vp_in_nI (by omega) (by omega)) ?_
        rw [nI_clamp (by omega)]
        refine v_iastore dX12_layGame_55 rfl (by exact vp_in_nI (by omega) (by omega)) ?_
        rw [nI_clamp (by omega)]
        refine v_iinc dX12_layGame_56 rfl (Nat.le_of_ble_eq_true rfl) rfl ?_
        refine v_goto dX12_layGame_59 ?_
        rw [nI_1]
        exact hgo _ _
  -- the strokes
  have strokes : ∀ j i τ, i + j = N → GFr σ τ → (∀ c', c' < 8 * R.2.2.2.1 * R.2.2.2.1 → τ.1 53 c' = iz (gW R g i (mdec R.2.2.2.1 c')) ∧ (0 < i → τ.1 54 c' = iz (gW R g (i - 1) (mdec R.2.2.2.1 c')))) → ∀ x4 x5 x6, V mX12_layGame (D + 4) 25 [some (.ref 44), some (.int (nI g)), some (.int (nI N)), some (.int (nI i)), x4, x5, x6] [] τ Q := by
    intro j
    induction j with
    | zero =>
      intro i τ hi hF g1 x4 x5 x6
      have e : i = N := by omega
      subst e
      refine v_iload_n dX12_layGame_25 rfl ?_
      refine v_iload_n dX12_layGame_26 rfl ?_
      refine v_icmp_ge dX12_layGame_27 (fun zc27 => ?_) (fun zc27 => ?_)
      · refine v_return dX12_layGame_169 rfl ?_
        exact hQ τ hF g1
      · exact absurd (nI_le (Nat.le_refl _) (by omega)) zc27
    | succ j ih =>
      intro i τ hi hF g1 x4 x5 x6
      have h1 := copy i (fun τ' y4 y5 y6 q1 q2 => by
        have h2 := states i (by omega) (fun τ'' w4 w5 w6 p1 p2 => by
          have hgo := ih (i + 1) τ'' (by omega) p1 (fun c' hc' => ⟨(p2 c' hc').1, fun _ => (p2 c' hc').2⟩)
          refine v_iinc dX12_layGame_163 rfl (Nat.le_of_ble_eq_true rfl) rfl ?_
          refine v_goto dX12_layGame_166 ?_
          rw [nI_1]
          exact hgo _ _ _) (8 * R.2.2.2.1 * R.2.2.2.1) 0 τ' (by omega) q1 q2 (fun c' hc' => absurd hc' (by omega))
        refine v_iconst dX12_layGame_62 ?_
        refine v_istore dX12_layGame_63 (Nat.le_of_ble_eq_true rfl) rfl ?_
        exact h2 _ _) (8 * R.2.2.2.1 * R.2.2.2.1) 0 τ (by omega) hF (fun c' hc' => (g1 c' hc').1) (fun c' hc' => absurd hc' (by omega))
      refine v_iload_n dX12_layGame_25 rfl ?_
      refine v_iload_n dX12_layGame_26 rfl ?_
      refine v_icmp_ge dX12_layGame_27 (fun zc27 => ?_) (fun zc27 => ?_)
      · exact absurd zc27 (nI_ge (by omega) (by omega))
      · refine v_iconst dX12_layGame_30 ?_
        refine v_istore dX12_layGame_31 (Nat.le_of_ble_eq_true rfl) rfl ?_
        exact h1 _ _
  have fill : ∀ j c, c + j = 8 * R.2.2.2.1 * R.2.2.2.1 → ∀ x4 x5 x6, V mX12_layGame (D + 4) 2 [some (.ref 44), some (.int (nI g)), some (.int (nI N)), some (.int (nI c)), x4, x5, x6] [] (fillI σ 53 c 0) Q := by
    intro j
    induction j with
    | zero =>
      intro c hc x4 x5 x6
      have h33 : (fillI σ 53 c 0).1 44 3 = nI R.2.2.2.1 := by rw [fillI_o (by omega)]; exact hM.2.2.2.1
      have h1 := strokes N 0 (fillI σ 53 c 0) (by omega) ⟨fun a b h => fillI_o (by omega), rfl⟩ (fun c' hc' => ⟨by rw [fillI_i (by omega)]; rfl, fun h => absurd h (by omega)⟩)
      refine v_iload_n dX12_layGame_2 rfl ?_
      refine v_aload_n dX12_layGame_3 rfl ?_
      refine v_callV0 dX12_layGame_4 mv_RX12_233 rfl rfl (Nat.le_of_ble_eq_true rfl) ?_
      refine ok_states h33 ?_
      show V _ _ _ _ (_ :: _) _ _
      refine v_icmp_ge dX12_layGame_7 (fun zc7 => ?_) (fun zc7 => ?_)
      · refine v_iconst dX12_layGame_23 ?_
        refine v_istore_n dX12_layGame_24 (Nat.le_of_ble_eq_true rfl) rfl ?_
        exact h1 _ _ _
      · exact absurd (nI_le (by omega) (by omega)) zc7
    | succ j ih =>
      intro c hc x4 x5 x6
      have h33 : (fillI σ 53 c 0).1 44 3 = nI R.2.2.2.1 := by rw [fillI_o (by omega)]; exact hM.2.2.2.1
      refine v_iload_n dX12_layGame_2 rfl ?_
      refine v_aload_n dX12_layGame_3 rfl ?_
      refine v_callV0 dX12_layGame_4 mv_RX12_233 rfl rfl (Nat.le_of_ble_eq_true rfl) ?_
      refine ok_states h33 ?_
      show V _ _ _ _ (_ :: _) _ _
      refine v_icmp_ge dX12_layGame_7 (fun zc7 => ?_) (fun zc7 => ?_)
      · exact absurd zc7 (nI_ge (by omega) (by omega))
      · refine v_aload_n dX12_layGame_10 rfl ?_
        refine v_getR (q := 53) dX12_layGame_11 fl_RX12_44 rfl rfl ?_
        refine v_iload_n dX12_layGame_14 rfl ?_
        refine v_iconst dX12_layGame_15 ?_
        refine v_iastore dX12_layGame_16 rfl (by exact vp_in_nI (by omega) (by omega)) ?_
        rw [nI_clamp (by omega), fillI_s]
        refine v_iinc dX12_layGame_17 rfl (Nat.le_of_ble_eq_true rfl) rfl ?_
        refine v_goto dX12_layGame_20 ?_
        rw [nI_1]
        exact ih (c + 1) (by omega) _ _ _
  have hfill := fill (8 * R.2.2.2.1 * R.2.2.2.1) 0 (by omega)
  rw [fillI_0] at hfill
  refine ok_enter rfl (Nat.le_of_ble_eq_true rfl) ?_
  refine v_iconst dX12_layGame_0 ?_
  refine v_istore_n dX12_layGame_1 (Nat.le_of_ble_eq_true rfl) rfl ?_
  exact hfill _ _ _
end G2
