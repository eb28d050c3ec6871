/-! ===== the reference's game ===== -/
section G3
variable {D : Nat} {σ τ : Wd} {Q : Option Value → Wd → Prop} {R : Rk} {s : St} {r g n : Nat}
theorem ok_mgame {x y z : Int32} (hP : MP σ R s) (hQ : ∀ τ, ScFr σ τ → Q (some (.int (gAns R s x.toInt y.toInt z.toInt))) τ) : Ok (D + 5) mX12_game [.ref 44, .int x, .int y, .int z] σ Q := by
  obtain ⟨hM, h4, hv, hS, hs⟩ := id hP
  have hm := hv.m100
  have hnk := hv.n9
  have h8 := mm_le hm
  obtain ⟨x1, x2⟩ := iz_rng x
  have hxe := iz_of x
  generalize hxi : x.toInt = xi at *
  subst hxe
  obtain ⟨y1, y2⟩ := iz_rng y
  have hye := iz_of y
  generalize hyi : y.toInt = yi at *
  subst hye
  obtain ⟨z1, z2⟩ := iz_rng z
  have hze := iz_of z
  generalize hzi : z.toInt = zi at *
  subst hze
  unfold gAns at hQ
  have out : (¬ (0 ≤ xi ∧ xi < R.2.2.2.1) ∨ yi < 0 ∨ 6 < yi ∨ zi < 0 ∨ 1 < zi) → Q (some (.int OUT)) σ := fun h => by
    have := hQ σ ScFr.rf
    rw [if_pos h] at this
    exact this
  have main : ¬ (¬ (0 ≤ xi ∧ xi < R.2.2.2.1) ∨ yi < 0 ∨ 6 < yi ∨ zi < 0 ∨ 1 < zi) → 0 < yi → 0 < R.2.2.2.2.length → V mX12_game (D + 5) 51 [some (.ref 44), some (.int (iz xi)), some (.int (iz yi)), some (.int (iz zi)), none, none, none, none] [] σ Q := by
    intro hok hy0 hk0
    obtain ⟨N, hN⟩ : ∃ N : Nat, yi = N + 1 := ⟨(yi - 1).toNat, by omega⟩
    obtain ⟨g, hg⟩ : ∃ g : Nat, xi = g := ⟨xi.toNat, by omega⟩
    subst hN; subst hg
    have hm0 : 0 < R.2.2.2.1 := by omega
    have hf := fun t => gW_rng (R := R) (g := g) N t
    have hw := hs.w
    have hnow := mc_lt hm0 hw
    have e0 : gW R g (N + 1) s = gB R g (gW R g N) s R.2.2.2.2.length := by show (if _ then _ else _) = _; rw [if_neg (by omega)]
    have hcr := gB_rng (R := R) (g := g) (s := s) hf R.2.2.2.2.length
    obtain ⟨i0, q1, q2, q3, q4⟩ := gI_spec (R := R) (g := g) (s := s) (f := gW R g N) R.2.2.2.2.length hk0 hf
    have ans : ∀ τ, ScFr σ τ → Q (some (.int (if zi = 0 then iz (gB R g (gW R g N) s R.2.2.2.2.length) else iz i0))) τ := by
      intro τ h
      have h9 := hQ τ h
      rw [if_neg hok, show ((g : Int)).toNat = g from rfl, show ((N : Int) + 1).toNat = N + 1 by omega, if_neg (show ¬ N + 1 = 0 by omega), show N + 1 - 1 = N from rfl, e0, q1] at h9
      exact h9
    have loop : ∀ (t : Nat) (w : Int) τ, t ≤ R.2.2.2.2.length → GFr σ τ → (∀ c, c < 8 * R.2.2.2.1 * R.2.2.2.1 → τ.1 54 c = iz (gW R g N (mdec R.2.2.2.1 c))) →
        ((w = -1 ∧ ∀ j, t ≤ j → j < R.2.2.2.2.length → gK R g (gW R g N) s j ≠ gB R g (gW R g N) s R.2.2.2.2.length) ∨ ∃ i : Nat, w = i ∧ t ≤ i ∧ i < R.2.2.2.2.length ∧ gK R g (gW R g N) s i = gB R g (gW R g N) s R.2.2.2.2.length ∧ ∀ j, t ≤ j → j < i → gK R g (gW R g N) s j ≠ gB R g (gW R g N) s R.2.2.2.2.length) →
        V mX12_game (D + 5) 83 [some (.ref 44), some (.int (iz g)), some (.int (iz ((N : Int) + 1))), some (.int (iz zi)), some (.int (nI (mc R.2.2.2.1 s))), some (.int (iz (gB R g (gW R g N) s R.2.2.2.2.length))), some (.int (iz w)), some (.int (iz ((t : Int) - 1)))] [] τ Q := by
      intro t
      induction t with
      | zero =>
        intro w τ ht hF hl hwc
        have hw0 : w = i0 := by
          rcases hwc with ⟨-, h⟩ | ⟨i, h1, -, h2, h3, h5⟩
          · exact absurd q3 (h i0 (by omega) q2)
          · rcases Nat.lt_trichotomy i i0 with h | h | h
            · have := q4 i h; omega
            · omega
            · exact absurd q3 (h5 i0 (by omega) h)
        subst hw0
        have hMM : RepM τ R := hM.kept (fun b hb => hF.1 _ _ (by omega)) (fun b => hF.1 _ _ (by omega))
        have hsc : ScFr σ (putS τ s) := by
          refine ⟨fun a b h => ?_, hF.2⟩
          by_cases h44 : a = 44 ∧ 21 ≤ b ∧ b ≤ 24
          · obtain ⟨rfl, q1, q2⟩ := h44
            obtain ⟨p1, p2, p3, p4⟩ := putS_rep (σ := τ) (s := s)
            obtain ⟨r1, r2, r3, r4⟩ := hS
            rcases (show b = 21 ∨ b = 22 ∨ b = 23 ∨ b = 24 by omega) with rfl | rfl | rfl | rfl
            · rw [p1, r1]
            · rw [p2, r2]
            · rw [p3, r3]
            · rw [p4, r4]
          · rw [putS_o h44]
            exact hF.1 a b (by omega)
        have ha := ans _ hsc
        refine v_iload dX12_game_83 rfl ?_
        refine v_if_lt dX12_game_85 (fun zc85 => ?_) (fun zc85 => ?_)
        · try simp (disch := omega) only [iz_lit, iz_nI, iz_neg, iz_add, iz_sub, iz_mul, iz_lt, iz_le, iz_eq] at zc85
          refine v_aload_n dX12_game_121 rfl ?_
          refine v_iload dX12_game_122 rfl ?_
          refine v_callV1 dX12_game_124 mv_RX12_223 rfl rfl (Nat.le_of_ble_eq_true rfl) ?_
          refine ok_setState hMM.2.2.2.1 hm0 hm (by omega) ?_
          rw [mdec_mc hm0 hw]
          show V _ _ _ _ _ _ _
          refine v_iload_n dX12_game_127 rfl ?_
          refine v_if_ne dX12_game_128 (fun zc128 => ?_) (fun zc128 => ?_)
          · try simp (disch := omega) only [iz_lit, iz_nI, iz_neg, iz_add, iz_sub, iz_mul, iz_lt, iz_le, iz_eq] at zc128
            refine v_iload dX12_game_136 rfl ?_
            refine v_ireturn dX12_game_138 rfl (rfl) ?_
            first | (rw [if_pos (by omega)] at ha; exact ha) | (rw [if_neg (by omega)] at ha; exact ha)
          · try simp (disch := omega) only [iz_lit, iz_nI, iz_neg, iz_add, iz_sub, iz_mul, iz_lt, iz_le, iz_eq] at zc128
            refine v_iload dX12_game_131 rfl ?_
            refine v_goto dX12_game_133 ?_
            refine v_ireturn dX12_game_138 rfl (rfl) ?_
            first | (rw [if_pos (by omega)] at ha; exact ha) | (rw [if_neg (by omega)] at ha; exact ha)
        · try simp (disch := omega) only [iz_lit, iz_nI, iz_neg, iz_add, iz_sub, iz_mul, iz_lt, iz_le, iz_eq] at zc85
          exfalso; omega
      | succ t ih =>
        intro w τ ht hF hl hwc
        have hMM : RepM τ R := hM.kept (fun b hb => hF.1 _ _ (by omega)) (fun b => hF.1 _ _ (by omega))
        have ev : iz (((t + 1 : Nat) : Int) - 1) = nI t := by rw [iz_nI]; congr 1; omega
        rw [ev]
        have b2 := gK_rng (R := R) (g := g) (s := s) hf t
        have hky : R.2.2.2.2[t]? = some (R.2.2.2.2.getD t (0, 0, 0, 0)) := by rw [List.getD, List.getElem?_eq_getElem (by omega)]; rfl
        have hnw := nx_w hv (show t < R.2.2.2.2.length by omega) hw
        have hcn := mc_lt hm0 hnw
        have hdn := mdec_mc hm0 hnw
        have hds := mdec_mc hm0 hw
        have hsl := hnw.1
        have hgk : (if (mdec R.2.2.2.1 (mc R.2.2.2.1 (nx R s t))).1 = g then (1 : Int32) else - (putS τ (nx R s t)).1 54 (mc R.2.2.2.1 (nx R s t))) = iz (gK R g (gW R g N) s t) := by
          rw [putS_o (by omega), hl _ hcn, hdn]
          unfold gK
          split
          · rfl
          · rw [iz_neg]
        have hl2 : ∀ c, c < 8 * R.2.2.2.1 * R.2.2.2.1 → (putS τ (nx R s t)).1 54 c = iz (gW R g N (mdec R.2.2.2.1 c)) := fun c hc => by rw [putS_o (by omega)]; exact hl c hc
        refine v_iload dX12_game_83 rfl ?_
        refine v_if_lt dX12_game_85 (fun zc85 => ?_) (fun zc85 => ?_)
        · exact absurd zc85 (nI_pos (by omega))
        · refine v_aload_n dX12_game_88 rfl ?_
          refine v_aload_n dX12_game_89 rfl ?_
          refine v_iload dX12_game_90 rfl ?_
          refine v_iload dX12_game_92 rfl ?_
          refine v_callV2 dX12_game_94 mv_RX12_239 rfl rfl (Nat.le_of_ble_eq_true rfl) ?_
          refine ok_behind hMM (show 8 ≤ 9 by decide) hv hky hnow ?_
          rw [hds, show rk_str R s (R.2.2.2.2.getD t (0, 0, 0, 0)) = nx R s t from rfl]
          show V _ _ _ _ (_ :: _) _ _
          refine v_iload_n dX12_game_97 rfl ?_
          rw [← iz_nI g]
          refine v_callV2 dX12_game_98 mv_RX12_292 rfl rfl (Nat.le_of_ble_eq_true rfl) ?_
          refine ok_mworth hMM.putS.2.2.2.1 hm0 hm (by omega) (by omega) (by rw [hdn]; omega) ?_
          rw [hgk, iz_nI g]
          show V _ _ _ _ (_ :: _) _ _
          refine v_iload dX12_game_101 rfl ?_
          refine v_icmp_ne dX12_game_103 (fun zc103 => ?_) (fun zc103 => ?_)
          · rw [iz_eq (by omega) (by omega) (by omega) (by omega)] at zc103
            refine v_iload dX12_game_111 rfl ?_
            refine v_istore dX12_game_113 (Nat.le_of_ble_eq_true rfl) rfl ?_
            refine v_iinc dX12_game_115 rfl (Nat.le_of_ble_eq_true rfl) rfl ?_
            refine v_goto dX12_game_118 ?_
            rw [show (-1 : Int32) = iz (-1) from rfl, show nI t + iz (-1) = iz ((t : Int) - 1) by rw [iz_nI, iz_add]; rfl]
            first | (refine ih w _ (by omega) hF.putS hl2 ?_; rcases hwc with ⟨h1, h2⟩ | ⟨i, h1, h2, h3, h5, h6⟩; (refine Or.inl ⟨h1, fun j h7 h9 => ?_⟩; rcases Nat.lt_or_ge j (t + 1) with h10 | h10; (rw [show j = t by omega]; exact zc103); exact h2 j h10 h9); (refine Or.inr ⟨i, h1, by omega, h3, h5, fun j h7 h9 => ?_⟩; rcases Nat.lt_or_ge j (t + 1) with h10 | h10; (rw [show j = t by omega]; exact zc103); exact h6 j h10 h9); done) | (rw [iz_nI t]; refine ih t _ (by omega) hF.putS hl2 (Or.inr ⟨t, rfl, Nat.le_refl _, by omega, zc103, fun j h7 h9 => absurd h9 (by omega)⟩); done)
          · rw [iz_eq (by omega) (by omega) (by omega) (by omega)] at zc103
            refine v_iload dX12_game_106 rfl ?_
            refine v_goto dX12_game_108 ?_
            refine v_istore dX12_game_113 (Nat.le_of_ble_eq_true rfl) rfl ?_
            refine v_iinc dX12_game_115 rfl (Nat.le_of_ble_eq_true rfl) rfl ?_
            refine v_goto dX12_game_118 ?_
            rw [show (-1 : Int32) = iz (-1) from rfl, show nI t + iz (-1) = iz ((t : Int) - 1) by rw [iz_nI, iz_add]; rfl]
            first | (refine ih w _ (by omega) hF.putS hl2 ?_; rcases hwc with ⟨h1, h2⟩ | ⟨i, h1, h2, h3, h5, h6⟩; (refine Or.inl ⟨h1, fun j h7 h9 => ?_⟩; rcases Nat.lt_or_ge j (t + 1) with h10 | h10; (rw [show j = t by omega]; exact zc103); exact h2 j h10 h9); (refine Or.inr ⟨i, h1, by omega, h3, h5, fun j h7 h9 => ?_⟩; rcases Nat.lt_or_ge j (t + 1) with h10 | h10; (rw [show j = t by omega]; exact zc103); exact h6 j h10 h9); done) | (rw [iz_nI t]; refine ih t _ (by omega) hF.putS hl2 (Or.inr ⟨t, rfl, Nat.le_refl _, by omega, zc103, fun j h7 h9 => absurd h9 (by omega)⟩); done)
    have hres : ∀ τ, GFr σ τ → (∀ c, c < 8 * R.2.2.2.1 * R.2.2.2.1 → τ.1 53 c = iz (gW R g (N + 1) (mdec R.2.2.2.1 c)) ∧ (0 < N + 1 → τ.1 54 c = iz (gW R g (N + 1 - 1) (mdec R.2.2.2.1 c)))) → V mX12_game (D + 5) 63 [some (.ref 44), some (.int (iz g)), some (.int (iz ((N : Int) + 1))), some (.int (iz zi)), some (.int (nI (mc R.2.2.2.1 s))), none, none, none] [] τ Q := by
      intro τ f1 f2
      have hfar := (f2 _ hnow).1
      rw [mdec_mc hm0 hw, e0] at hfar
      have h44 : τ.1 44 4 = nI R.2.2.2.2.length := by rw [f1.1 _ _ (by omega)]; exact h4
      have hl := loop R.2.2.2.2.length (-1) τ (Nat.le_refl _) f1 (fun c hc => (f2 c hc).2 (by omega)) (Or.inl ⟨rfl, fun j h1 h2 => absurd h2 (by omega)⟩)
      refine v_aload_n dX12_game_63 rfl ?_
      refine v_getR (q := 53) dX12_game_64 fl_RX12_44 rfl rfl ?_
      refine v_iload dX12_game_67 rfl ?_
      refine v_iaload dX12_game_69 rfl (by exact vp_in_nI (by omega) (by omega)) ?_
      rw [nI_clamp (by omega), hfar]
      refine v_istore dX12_game_70 (Nat.le_of_ble_eq_true rfl) rfl ?_
      refine v_iconst dX12_game_72 ?_
      refine v_istore dX12_game_73 (Nat.le_of_ble_eq_true rfl) rfl ?_
      refine v_aload_n dX12_game_75 rfl ?_
      refine v_getI dX12_game_76 fl_RX12_182 rfl ?_
      rw [h44]
      refine v_iconst dX12_game_79 ?_
      refine v_isub dX12_game_80 ?_
      refine v_istore dX12_game_81 (Nat.le_of_ble_eq_true rfl) rfl ?_
      rw [show (1 : Int32) = iz 1 from rfl, iz_nI R.2.2.2.2.length, iz_sub]
      exact hl
    refine v_aload_n dX12_game_51 rfl ?_
    refine v_callV0 dX12_game_52 mv_RX12_229 rfl rfl (Nat.le_of_ble_eq_true rfl) ?_
    refine ok_stateNow hM.2.2.2.1 hS hw hm ?_
    show V _ _ _ _ (_ :: _) _ _
    refine v_istore dX12_game_55 (Nat.le_of_ble_eq_true rfl) rfl ?_
    refine v_aload_n dX12_game_57 rfl ?_
    refine v_iload_n dX12_game_58 rfl ?_
    refine v_iload_n dX12_game_59 rfl ?_
    refine v_callV2 dX12_game_60 mv_RX12_295 rfl rfl (Nat.le_of_ble_eq_true rfl) ?_
    rw [show iz (g : Int) = nI g from (iz_nI g).symm, show iz ((N : Int) + 1) = nI (N + 1) by rw [iz_nI]; rfl]
    refine ok_layGame hM h4 hv hm0 hk0 (by omega) (by omega) (fun τ f1 f2 => ?_)
    rw [show nI g = iz (g : Int) from iz_nI g, show nI (N + 1) = iz ((N : Int) + 1) by rw [iz_nI]; rfl]
    show V _ _ _ _ _ _ _
    exact hres τ f1 f2
  refine ok_enter rfl (Nat.le_of_ble_eq_true rfl) ?_
  refine v_aload_n dX12_game_0 rfl ?_
  refine v_iload_n dX12_game_1 rfl ?_
  refine v_callV1 dX12_game_2 mv_RX12_243 rfl rfl (Nat.le_of_ble_eq_true rfl) ?_
  refine ok_isNumber hM.2.2.2.1 hm ?_
  rw [hxi]
  show V _ _ _ _ (_ :: _) _ _
  refine v_if_eq dX12_game_5 (fun zc5 => ?_) (fun zc5 => ?_)
  · have hx : ¬ (0 ≤ xi ∧ xi < R.2.2.2.1) := fun h => by rw [if_pos h] at zc5; exact absurd zc5 (by decide)
    refine v_ldc dX12_game_27 cn_RX12_72 ?_
    refine v_ireturn dX12_game_29 rfl (rfl) ?_
    exact out (by omega)
  · have hx : 0 ≤ xi ∧ xi < R.2.2.2.1 := by
      by_cases h : 0 ≤ xi ∧ xi < (R.2.2.2.1 : Int)
      · exact h
      · rw [if_neg h] at zc5; exact absurd rfl zc5
    refine v_iload_n dX12_game_8 rfl ?_
    refine v_iconst dX12_game_9 ?_
    refine v_bipush dX12_game_10 ?_
    refine v_callS3 dX12_game_12 ms_RX12_68 (Nat.le_of_ble_eq_true rfl) ?_
    refine ok_in ?_
    rw [iz_T0, show ((6 : Int32)).toInt = 6 from rfl, hyi]
    show V _ _ _ _ (_ :: _) _ _
    refine v_if_eq dX12_game_15 (fun zc15 => ?_) (fun zc15 => ?_)
    · have hy : yi < 0 ∨ 6 < yi := by
        by_cases h : 0 ≤ yi ∧ yi ≤ 6
        · rw [if_pos h] at zc15; exact absurd zc15 (by decide)
        · omega
      refine v_ldc dX12_game_27 cn_RX12_72 ?_
      refine v_ireturn dX12_game_29 rfl (rfl) ?_
      exact out (by omega)
    · have hy : 0 ≤ yi ∧ yi ≤ 6 := by
        by_cases h : 0 ≤ yi ∧ yi ≤ 6
        · exact h
        · rw [if_neg h] at zc15; exact absurd rfl zc15
      refine v_iload_n dX12_game_18 rfl ?_
      refine v_iconst dX12_game_19 ?_
      refine v_iconst dX12_game_20 ?_
      refine v_callS3 dX12_game_21 ms_RX12_68 (Nat.le_of_ble_eq_true rfl) ?_
      refine ok_in ?_
      rw [iz_T0, show ((1 : Int32)).toInt = 1 from rfl, hzi]
      show V _ _ _ _ (_ :: _) _ _
      refine v_if_ne dX12_game_24 (fun zc24 => ?_) (fun zc24 => ?_)
      · have hz : 0 ≤ zi ∧ zi ≤ 1 := by
          by_cases h : 0 ≤ zi ∧ zi ≤ 1
          · exact h
          · rw [if_neg h] at zc24; exact absurd rfl zc24
        refine v_iload_n dX12_game_30 rfl ?_
        refine v_if_eq dX12_game_31 (fun zc31 => ?_) (fun zc31 => ?_)
        · simp (disch := omega) only [iz_lit, iz_eq] at zc31
          refine v_iload_n dX12_game_41 rfl ?_
          refine v_if_ne dX12_game_42 (fun zc42 => ?_) (fun zc42 => ?_)
          · simp (disch := omega) only [iz_lit, iz_eq] at zc42
            refine v_iconst dX12_game_49 ?_
            refine v_ireturn dX12_game_50 rfl (rfl) ?_
            have h9 := hQ σ ScFr.rf
            rw [if_neg (by omega)] at h9
            have e1 : gW R xi.toNat yi.toNat s = 0 := by
              cases hy5 : yi.toNat with
              | zero => rfl
              | succ k => show (if _ then _ else _) = _; rw [if_pos (by omega)]
            have e2 : (if yi.toNat = 0 then -1 else gI R xi.toNat (gW R xi.toNat (yi.toNat - 1)) s R.2.2.2.2.length) = -1 := by
              by_cases h5 : yi.toNat = 0
              · rw [if_pos h5]
              · rw [if_neg h5, show R.2.2.2.2.length = 0 by omega]; rfl
            rw [e1, e2] at h9
            first | (rw [if_pos zc42] at h9; exact h9) | (rw [if_neg zc42] at h9; exact h9)
          · simp (disch := omega) only [iz_lit, iz_eq] at zc42
            refine v_iconst dX12_game_45 ?_
            refine v_goto dX12_game_46 ?_
            refine v_ireturn dX12_game_50 rfl (rfl) ?_
            have h9 := hQ σ ScFr.rf
            rw [if_neg (by omega)] at h9
            have e1 : gW R xi.toNat yi.toNat s = 0 := by
              cases hy5 : yi.toNat with
              | zero => rfl
              | succ k => show (if _ then _ else _) = _; rw [if_pos (by omega)]
            have e2 : (if yi.toNat = 0 then -1 else gI R xi.toNat (gW R xi.toNat (yi.toNat - 1)) s R.2.2.2.2.length) = -1 := by
              by_cases h5 : yi.toNat = 0
              · rw [if_pos h5]
              · rw [if_neg h5, show R.2.2.2.2.length = 0 by omega]; rfl
            rw [e1, e2] at h9
            first | (rw [if_pos zc42] at h9; exact h9) | (rw [if_neg zc42] at h9; exact h9)
        · simp (disch := omega) only [iz_lit, iz_eq] at zc31
          refine v_aload_n dX12_game_34 rfl ?_
          refine v_getI dX12_game_35 fl_RX12_182 rfl ?_
          rw [h4]
          refine v_if_ne dX12_game_38 (fun zc38 => ?_) (fun zc38 => ?_)
          · rw [show (0 : Int32) = nI 0 from rfl, nI_eq (by omega) (by omega)] at zc38
            exact main (by omega) (by omega) (by omega)
          · rw [show (0 : Int32) = nI 0 from rfl, nI_eq (by omega) (by omega)] at zc38
            refine v_iload_n dX12_game_41 rfl ?_
            refine v_if_ne dX12_game_42 (fun zc42 => ?_) (fun zc42 => ?_)
            · simp (disch := omega) only [iz_lit, iz_eq] at zc42
              refine v_iconst dX12_game_49 ?_
              refine v_ireturn dX12_game_50 rfl (rfl) ?_
              have h9 := hQ σ ScFr.rf
              rw [if_neg (by omega)] at h9
              have e1 : gW R xi.toNat yi.toNat s = 0 := by
                cases hy5 : yi.toNat with
                | zero => rfl
                | succ k => show (if _ then _ else _) = _; rw [if_pos (by omega)]
              have e2 : (if yi.toNat = 0 then -1 else gI R xi.toNat (gW R xi.toNat (yi.toNat - 1)) s R.2.2.2.2.length) = -1 := by
                by_cases h5 : yi.toNat = 0
                · rw [if_pos h5]
                · rw [if_neg h5, show R.2.2.2.2.length = 0 by omega]; rfl
              rw [e1, e2] at h9
              first | (rw [if_pos zc42] at h9; exact h9) | (rw [if_neg zc42] at h9; exact h9)
            · simp (disch := omega) only [iz_lit, iz_eq] at zc42
              refine v_iconst dX12_game_45 ?_
              refine v_goto dX12_game_46 ?_
              refine v_ireturn dX12_game_50 rfl (rfl) ?_
              have h9 := hQ σ ScFr.rf
              rw [if_neg (by omega)] at h9
              have e1 : gW R xi.toNat yi.toNat s = 0 := by
                cases hy5 : yi.toNat with
                | zero => rfl
                | succ k => show (if _ then _ else _) = _; rw [if_pos (by omega)]
              have e2 : (if yi.toNat = 0 then -1 else gI R xi.toNat (gW R xi.toNat (yi.toNat - 1)) s R.2.2.2.2.length) = -1 := by
                by_cases h5 : yi.toNat = 0
                · rw [if_pos h5]
                · rw [if_neg h5, show R.2.2.2.2.length = 0 by omega]; rfl
              rw [e1, e2] at h9
              first | (rw [if_pos zc42] at h9; exact h9) | (rw [if_neg zc42] at h9; exact h9)
      · have hz : zi < 0 ∨ 1 < zi := by
          by_cases h : 0 ≤ zi ∧ zi ≤ 1
          · rw [if_pos h] at zc24; exact absurd zc24 (by decide)
          · omega
        refine v_ldc dX12_game_27 cn_RX12_72 ?_
        refine v_ireturn dX12_game_29 rfl (rfl) ?_
        exact out (by omega)
end G3
