/-! ===== the reference's text: read, reckoner() ===== -/
section MR3
variable {D : Nat} {σ τ : Wd} {Q : Option Value → Wd → Prop} {T : List Nat} {i p n k j : Nat} {R : Rk}
theorem RepQ.kept (h : RepQ σ R) (h1 : ∀ b, 15 ≤ b → b ≤ 19 → τ.1 44 b = σ.1 44 b) (h2 : ∀ b, τ.1 47 b = σ.1 47 b) : RepQ τ R := by
  obtain ⟨a1, a2, a3, a4, a5, a6⟩ := h
  refine ⟨by rw [h1 _ (by omega) (by omega)]; exact a1, by rw [h1 _ (by omega) (by omega)]; exact a2, by rw [h1 _ (by omega) (by omega)]; exact a3, by rw [h1 _ (by omega) (by omega)]; exact a4, by rw [h1 _ (by omega) (by omega)]; exact a5, fun i k hi => by rw [h2, h2, h2, h2]; exact a6 i k hi⟩
theorem ok_isRead (hX : RepMX σ T) (hT : vT T) (hQ : ∀ τ x, ((x = 0 ∧ ∃ f, Pread T = .inl f ∧ MXF σ τ ∧ τ.1 44 13 = nI f.2 ∧ τ.1 44 14 = nI f.1) ∨ (x = 1 ∧ ∃ R, Pread T = .inr R ∧ MXF σ τ ∧ RepQ τ R)) → Q (some (.int x)) τ) : Ok (D + 6) mX12_isRead [.ref 44] σ Q := by
  have hl := hT.1
  have z69 : ∀ τ, Q (some (.int 0)) τ → V mX12_isRead (D + 6) 69 [some (.ref 44), some (.int 0)] [] τ Q := by
    intro τ hf
    refine v_iload_n dX12_isRead_69 rfl ?_
    refine v_if_eq dX12_isRead_70 (fun zc70 => ?_) (fun zc70 => ?_)
    · refine v_iconst dX12_isRead_98 ?_
      refine v_ireturn dX12_isRead_99 rfl (rfl) ?_
      exact hf
    · exact absurd rfl zc70
  have loop : ∀ f R j τ, f + R.2.2.2.2.length = 9 → vD 8 R → MXF σ τ → RepQ τ R → τ.1 44 8 = nI j → j ≤ T.length → Pread T = Pkeys T f R j → V mX12_isRead (D + 6) 69 [some (.ref 44), some (.int 1)] [] τ Q := by
    intro f
    induction f with
    | zero =>
      intro R j τ hc hv
      have := hv.2.2.2.2.2.2.2.1
      omega
    | succ f ih =>
      intro R j τ hc hv hF hR hn hj hPr
      have hX1 := hF.x hX
      have hp : skp T j ≤ T.length := spn_le hj
      refine v_iload_n dX12_isRead_69 rfl ?_
      refine v_if_eq dX12_isRead_70 (fun zc70 => ?_) (fun zc70 => ?_)
      · exact absurd zc70 (by decide)
      · refine v_aload_n dX12_isRead_73 rfl ?_
        refine v_callV0 dX12_isRead_74 mv_RX12_110 rfl rfl (Nat.le_of_ble_eq_true rfl) ?_
        refine ok_next hX1 hT hn hj (fun τ1 a1 a2 a3 a4 a5 => ?_)
        have hF1 : MXF σ τ1 := hF.tr (MXF.of a1.md (fun a b h => h.x))
        have hX2 := hF1.x hX
        have hR1 : RepQ τ1 R := hR.kept (fun b h1 h2 => a1.1 _ _ (by omega)) (fun b => a1.1 _ _ (by omega))
        show V _ _ _ _ _ _ _
        refine v_aload_n dX12_isRead_77 rfl ?_
        refine v_getJ dX12_isRead_78 fl_RX12_93 rfl ?_
        rw [a3]
        refine v_ldc2 dX12_isRead_81 cn_RX12_91 ?_
        refine v_lcmp dX12_isRead_84 ?_
        refine v_if_ne dX12_isRead_85 (fun zc85 => ?_) (fun zc85 => ?_)
        · rw [lg_eq, tk_m2] at zc85
          refine v_aload_n dX12_isRead_90 rfl ?_
          refine v_callV0 dX12_isRead_91 mv_RX12_170 rfl rfl (Nat.le_of_ble_eq_true rfl) ?_
          refine ok_isKey2 hX2 hT hj a2 a3 a4 hR1 hv (fun τ2 x2 e2 => ?_)
          have hPk : Pread T = bnd (Pkey T R.2.1 R.2.2.2.1 R.2.2.2.2.length j) (fun k => Pkeys T f (addK R k.1) k.2) := by rw [hPr]; show (if T.length ≤ skp T j then _ else _) = _; rw [if_neg zc85]
          show V _ _ _ _ (_ :: _) _ _
          refine v_istore_n dX12_isRead_94 (Nat.le_of_ble_eq_true rfl) rfl ?_
          refine v_goto dX12_isRead_95 ?_
          rcases e2 with ⟨hx, g, q1, q2, q3, q4⟩ | ⟨hx, k, j2, q1, q2, q3, q4⟩
          · subst hx
            exact z69 τ2 (hQ _ _ (Or.inl ⟨rfl, g, by rw [hPk]; exact bnd_il q1, hF1.tr q2, q3, q4⟩))
          · subst hx
            obtain ⟨k1, k2, k3⟩ := Pkey_r (by have := hv.2.1; omega) (by have := hv.2.2.2.2.2.1; have := hv.2.1; omega) q1
            have hvk : vD 8 (addK R k) := by
              obtain ⟨a1, a2, a3, a4, a5, a6, a7, a8, a9⟩ := hv
              obtain ⟨d1, d2, d3, d4, d5, d6, d7, d8, d9⟩ := vD.add (n := R.2.2.2.2.length) ⟨a1, a2, a3, a4, a5, a6, a7, Nat.le_refl _, a9⟩ k1
              exact ⟨d1, d2, d3, d4, d5, d6, d7, by omega, d9⟩
            have hlk : (addK R k).2.2.2.2.length = R.2.2.2.2.length + 1 := by show (R.2.2.2.2 ++ [k]).length = _; rw [List.length_append, List.length_singleton]
            exact ih (addK R k) j2 τ2 (by omega) hvk (hF1.tr q2) q3 q4 k3 (by rw [hPk]; exact bnd_in q1)
        · rw [lg_eq, tk_m2] at zc85
          refine v_iconst dX12_isRead_88 ?_
          refine v_ireturn dX12_isRead_89 rfl (rfl) ?_
          exact hQ _ _ (Or.inr ⟨rfl, R, by rw [hPr]; unfold Pkeys; rw [if_pos zc85], hF1, hR1⟩)
  obtain ⟨σ0, hσ0⟩ : ∃ σ0, σ0 = setI (setI (setI (setI (setI (setI σ 44 8 0) 44 15 (-1)) 44 16 0) 44 17 0) 44 18 0) 44 19 0 := ⟨_, rfl⟩
  have hF0 : MXF σ σ0 := by
    rw [hσ0]
    exact MdF.set (MdF.set (MdF.set (MdF.set (MdF.set (MdF.set MdF.rf (Or.inl (by omega))) (Or.inl (by omega))) (Or.inl (by omega))) (Or.inl (by omega))) (Or.inl (by omega))) (Or.inl (by omega))
  have hX0 := hF0.x hX
  have h80 : σ0.1 44 8 = nI 0 := by rw [hσ0, setI_ne (by omega), setI_ne (by omega), setI_ne (by omega), setI_ne (by omega), setI_ne (by omega), setI_same]; rfl
  have hR0 : RepQ σ0 (-1, 0, 0, 0, []) := by
    rw [hσ0]
    refine ⟨?_, ?_, ?_, ?_, ?_, fun i k hi => by simp at hi⟩
    · rw [setI_ne (by omega), setI_ne (by omega), setI_ne (by omega), setI_ne (by omega), setI_same]; rfl
    · rw [setI_ne (by omega), setI_ne (by omega), setI_ne (by omega), setI_same]; rfl
    · rw [setI_ne (by omega), setI_ne (by omega), setI_same]; rfl
    · rw [setI_ne (by omega), setI_same]; rfl
    · rw [setI_same]; rfl
  have hp : skp T 0 ≤ T.length := spn_le (Nat.zero_le _)
  refine ok_enter rfl (Nat.le_of_ble_eq_true rfl) ?_
  refine v_aload_n dX12_isRead_0 rfl ?_
  refine v_iconst dX12_isRead_1 ?_
  refine v_putI dX12_isRead_2 fp_RX12_79 rfl ?_
  refine v_aload_n dX12_isRead_5 rfl ?_
  refine v_iconst dX12_isRead_6 ?_
  refine v_putI dX12_isRead_7 fp_RX12_121 rfl ?_
  refine v_aload_n dX12_isRead_10 rfl ?_
  refine v_iconst dX12_isRead_11 ?_
  refine v_putI dX12_isRead_12 fp_RX12_127 rfl ?_
  refine v_aload_n dX12_isRead_15 rfl ?_
  refine v_iconst dX12_isRead_16 ?_
  refine v_putI dX12_isRead_17 fp_RX12_130 rfl ?_
  refine v_aload_n dX12_isRead_20 rfl ?_
  refine v_iconst dX12_isRead_21 ?_
  refine v_putI dX12_isRead_22 fp_RX12_133 rfl ?_
  refine v_aload_n dX12_isRead_25 rfl ?_
  refine v_iconst dX12_isRead_26 ?_
  refine v_putI dX12_isRead_27 fp_RX12_161 rfl ?_
  rw [← hσ0]
  refine v_aload_n dX12_isRead_30 rfl ?_
  refine v_callV0 dX12_isRead_31 mv_RX12_110 rfl rfl (Nat.le_of_ble_eq_true rfl) ?_
  refine ok_next hX0 hT h80 (Nat.zero_le _) (fun τ1 a1 a2 a3 a4 a5 => ?_)
  have hF1 : MXF σ τ1 := hF0.tr (MXF.of a1.md (fun a b h => h.x))
  have hX1 := hF1.x hX
  have hR1 : RepQ τ1 (-1, 0, 0, 0, []) := hR0.kept (fun b h1 h2 => a1.1 _ _ (by omega)) (fun b => a1.1 _ _ (by omega))
  show V _ _ _ _ _ _ _
  refine v_aload_n dX12_isRead_34 rfl ?_
  refine v_getJ dX12_isRead_35 fl_RX12_93 rfl ?_
  rw [a3]
  refine v_ldc2 dX12_isRead_38 cn_RX12_91 ?_
  refine v_lcmp dX12_isRead_41 ?_
  refine v_if_ne dX12_isRead_42 (fun zc42 => ?_) (fun zc42 => ?_)
  · rw [lg_eq, tk_m2] at zc42
    refine v_aload_n dX12_isRead_47 rfl ?_
    refine v_getJ dX12_isRead_48 fl_RX12_93 rfl ?_
    rw [a3]
    refine v_ldc2 dX12_isRead_51 cn_RX12_159 ?_
    refine v_lcmp dX12_isRead_54 ?_
    refine v_if_eq dX12_isRead_55 (fun zc55 => ?_) (fun zc55 => ?_)
    · rw [lg_eq, show (85332 : Int64) = lN (fo27 (wd 0)) from rfl, tk_w (by decide)] at zc55
      refine v_aload_n dX12_isRead_64 rfl ?_
      refine v_callV0 dX12_isRead_65 mv_RX12_167 rfl rfl (Nat.le_of_ble_eq_true rfl) ?_
      rw [nxt_w (q := 0) (by decide) zc55, zc55, show (wd 0).length = 4 from rfl] at a4
      have hw4 := wrd_len hp
      rw [zc55, show (wd 0).length = 4 from rfl] at hw4
      have hPr : Pread T = bnd (Pdial T (skp T 0 + 4)) (fun x => Pkeys T 9 x.1 x.2) := by unfold Pread; rw [if_neg zc42, if_pos zc55]
      refine ok_isDial hX1 hT a4 hw4 (fun τ2 x2 e2 => ?_)
      show V _ _ _ _ (_ :: _) _ _
      refine v_istore_n dX12_isRead_68 (Nat.le_of_ble_eq_true rfl) rfl ?_
      rcases e2 with ⟨hx, g, q1, q2, q3, q4⟩ | ⟨hx, y, q1, q2, q3, q4, q5, q6, q7⟩
      · subst hx
        exact z69 τ2 (hQ _ _ (Or.inl ⟨rfl, g, by rw [hPr]; exact bnd_il q1, hF1.tr q2, q3, q4⟩))
      · subst hx
        obtain ⟨d1, d2, d3⟩ := Pdial_v q1
        exact loop 9 y.1 y.2 τ2 (by rw [d2]; rfl) d1 (hF1.tr (MXF.of q2 (fun a b h => h.x))) ⟨q3, q4, q5, q6, by rw [q2.1 _ _ (by unfold pD; omega), hR1.2.2.2.2.1, d2], fun i k hi => by rw [d2] at hi; simp at hi⟩ q7 d3 (by rw [hPr]; exact bnd_in q1)
    · rw [lg_eq, show (85332 : Int64) = lN (fo27 (wd 0)) from rfl, tk_w (by decide)] at zc55
      refine v_aload_n dX12_isRead_58 rfl ?_
      refine v_iconst dX12_isRead_59 ?_
      refine v_callV1 dX12_isRead_60 mv_RX12_113 rfl rfl (Nat.le_of_ble_eq_true rfl) ?_
      refine ok_fails a2 ?_
      show V _ _ _ _ (_ :: _) _ _
      refine v_ireturn dX12_isRead_63 rfl (rfl) ?_
      exact hQ _ _ (Or.inl ⟨rfl, (1, skp T 0), by unfold Pread; rw [if_neg zc42, if_neg zc55], MdF.set (MdF.set hF1 (Or.inl (by omega))) (Or.inl (by omega)), by rw [setI_ne (by omega), setI_same], by rw [setI_same]; rfl⟩)
  · rw [lg_eq, tk_m2] at zc42
    refine v_iconst dX12_isRead_45 ?_
    refine v_ireturn dX12_isRead_46 rfl (rfl) ?_
    exact hQ _ _ (Or.inr ⟨rfl, _, by unfold Pread; rw [if_pos zc42], hF1, hR1⟩)
theorem ok_mreck (hX : RepMX σ T) (hT : vT T)
    (hQ0 : ∀ τ f, Pread T = .inl f → (∀ a b, ¬ ((a = 44 ∧ 6 ≤ b ∧ b ≤ 19) ∨ a = 47) → τ.1 a b = σ.1 a b) → (∀ a b, ¬ (a = 44 ∧ b = 10) → τ.2.1 a b = σ.2.1 a b) → τ.2.2 = σ.2.2 → τ.1 44 6 = 0 → τ.1 44 13 = nI f.2 → Q (some (.int (-10 - nI f.1))) τ)
    (hQ1 : ∀ τ R, Pread T = .inr R → (∀ a b, ¬ ((a = 44 ∧ b ≤ 29) ∨ a = 45 ∨ a = 47 ∨ a = 52) → τ.1 a b = σ.1 a b) → (∀ a b, ¬ (a = 44 ∧ b = 10) → τ.2.1 a b = σ.2.1 a b) → τ.2.2 = σ.2.2 → τ.1 44 6 = 0 → τ.1 44 13 = -1 → RepM τ R → τ.1 44 4 = nI R.2.2.2.2.length → RepS τ (0, 0, 0, 0) → τ.1 44 25 = 0 → τ.1 44 27 = 0 → τ.1 44 29 = 0 → τ.1 52 0 = 0 → τ.1 52 1 = 0 → Q (some (.int (nI R.2.2.2.1))) τ) : Ok (D + 7) mX12_reckoner [.ref 44] σ Q := by
  have copy : ∀ (R : Rk) (τ0 : Wd), Pread T = .inr R → (∀ a b, ¬ ((a = 44 ∧ b ≤ 29) ∨ a = 45 ∨ a = 47 ∨ a = 52) → τ0.1 a b = σ.1 a b) → (∀ a b, ¬ (a = 44 ∧ b = 10) → τ0.2.1 a b = σ.2.1 a b) → τ0.2.2 = σ.2.2 → τ0.1 44 6 = 0 → τ0.1 44 13 = -1 → RepQ τ0 R → τ0.1 44 0 = iz R.1 → τ0.1 44 1 = nI R.2.1 → τ0.1 44 2 = nI R.2.2.1 → τ0.1 44 3 = nI R.2.2.2.1 → τ0.1 44 4 = nI R.2.2.2.2.length → ∀ j c (τ : Wd) (x1 : Int32), c + j = 4 * R.2.2.2.2.length → (∀ a b, a ≠ 45 → τ.1 a b = τ0.1 a b) → τ.2 = τ0.2 → (∀ b, b < c → τ.1 45 b = τ0.1 47 b) → V mX12_reckoner (D + 7) 69 [some (.ref 44), some (.int x1), some (.int (nI c))] [] τ Q := by
    intro R τ0 hPr f1 f2 f3 g6 g13 hR g0 g1 g2 g3 g4 j
    have hv := Pread_v hPr
    have hK := hv.n9
    induction j with
    | zero =>
      intro c τ x1 hc h1 h2 h3
      have hv4 : τ.1 44 4 = nI R.2.2.2.2.length := by rw [h1 _ _ (by omega)]; exact g4
      obtain ⟨τ1, hτ1⟩ : ∃ τ1, τ1 = setI (setI (setI (setI (setI (putS τ (0, 0, 0, 0)) 44 25 0) 44 27 0) 44 29 0) 52 0 0) 52 1 0 := ⟨_, rfl⟩
      have k1 : ∀ a b, ¬ ((a = 44 ∧ 21 ≤ b ∧ b ≤ 29) ∨ a = 52) → τ1.1 a b = τ.1 a b := fun a b h => by rw [hτ1, setI_ne (by omega), setI_ne (by omega), setI_ne (by omega), setI_ne (by omega), setI_ne (by omega), putS_o (by omega)]
      have k0 : ∀ a b, a ≠ 45 → ¬ ((a = 44 ∧ 21 ≤ b ∧ b ≤ 29) ∨ a = 52) → τ1.1 a b = τ0.1 a b := fun a b h h' => by rw [k1 a b h']; exact h1 a b h
      have k45 : ∀ b, b < 4 * R.2.2.2.2.length → τ1.1 45 b = τ0.1 47 b := fun b hb => by rw [k1 _ _ (by omega)]; exact h3 b (by omega)
      have hM : RepM τ1 R := by
        refine ⟨by rw [k0 _ _ (by omega) (by omega)]; exact g0, by rw [k0 _ _ (by omega) (by omega)]; exact g1, by rw [k0 _ _ (by omega) (by omega)]; exact g2, by rw [k0 _ _ (by omega) (by omega)]; exact g3, fun i k hi _ => ?_, fun i k hi => ?_⟩
        · have hil := (List.getElem?_eq_some_iff.mp hi).1
          rw [k45 _ (by omega), k45 _ (by omega)]
          exact ⟨(hR.2.2.2.2.2 i k hi).2.1, (hR.2.2.2.2.2 i k hi).2.2.2⟩
        · have hil := (List.getElem?_eq_some_iff.mp hi).1
          rw [k45 _ (by omega), k45 _ (by omega), k45 _ (by omega)]
          exact ⟨(hR.2.2.2.2.2 i k hi).1, (hR.2.2.2.2.2 i k hi).2.2.1, fun _ => (hR.2.2.2.2.2 i k hi).2.2.2⟩
      have hSp : RepS (putS τ (0, 0, 0, 0)) (0, 0, 0, 0) := putS_rep
      have kS : ∀ b, 21 ≤ b → b ≤ 24 → τ1.1 44 b = (putS τ (0, 0, 0, 0)).1 44 b := fun b h h' => by rw [hτ1, setI_ne (by omega), setI_ne (by omega), setI_ne (by omega), setI_ne (by omega), setI_ne (by omega)]
      have h9 := hQ1 τ1 R hPr (fun a b h => by rw [k0 a b (by omega) (by omega)]; exact f1 a b h) (fun a b h => by rw [hτ1]; show τ.2.1 a b = _; rw [h2]; exact f2 a b h) (by rw [hτ1]; show τ.2.2 = _; rw [h2]; exact f3) (by rw [k0 _ _ (by omega) (by omega)]; exact g6) (by rw [k0 _ _ (by omega) (by omega)]; exact g13) hM (by rw [k0 _ _ (by omega) (by omega)]; exact g4) ⟨by rw [kS _ (by omega) (by omega)]; exact hSp.1, by rw [kS _ (by omega) (by omega)]; exact hSp.2.1, by rw [kS _ (by omega) (by omega)]; exact hSp.2.2.1, by rw [kS _ (by omega) (by omega)]; exact hSp.2.2.2⟩
        (by rw [hτ1, setI_ne (by omega), setI_ne (by omega), setI_ne (by omega), setI_ne (by omega), setI_same]) (by rw [hτ1, setI_ne (by omega), setI_ne (by omega), setI_ne (by omega), setI_same]) (by rw [hτ1, setI_ne (by omega), setI_ne (by omega), setI_same]) (by rw [hτ1, setI_ne (by omega), setI_same]) (by rw [hτ1, setI_same])
      have h31 : τ1.1 44 3 = nI R.2.2.2.1 := by rw [k0 _ _ (by omega) (by omega)]; exact g3
      refine v_iload_n dX12_reckoner_69 rfl ?_
      refine v_iconst dX12_reckoner_70 ?_
      refine v_aload_n dX12_reckoner_71 rfl ?_
      refine v_getI dX12_reckoner_72 fl_RX12_182 rfl ?_
      rw [hv4]
      refine v_imul dX12_reckoner_75 ?_
      rw [show (4 : Int32) = nI 4 from rfl, pk_mul]
      refine v_icmp_ge dX12_reckoner_76 (fun zc76 => ?_) (fun zc76 => ?_)
      · refine v_aload_n dX12_reckoner_97 rfl ?_
        refine v_callV0 dX12_reckoner_98 mv_RX12_185 rfl rfl (Nat.le_of_ble_eq_true rfl) ?_
        refine ok_start ?_
        show V _ _ _ _ _ _ _
        refine v_aload_n dX12_reckoner_101 rfl ?_
        refine v_iconst dX12_reckoner_102 ?_
        refine v_putI dX12_reckoner_103 fp_RX12_188 rfl ?_
        refine v_aload_n dX12_reckoner_106 rfl ?_
        refine v_iconst dX12_reckoner_107 ?_
        refine v_putI dX12_reckoner_108 fp_RX12_191 rfl ?_
        refine v_aload_n dX12_reckoner_111 rfl ?_
        refine v_iconst dX12_reckoner_112 ?_
        refine v_putI dX12_reckoner_113 fp_RX12_194 rfl ?_
        refine v_aload_n dX12_reckoner_116 rfl ?_
        refine v_getR (q := 52) dX12_reckoner_117 fl_RX12_39 rfl rfl ?_
        refine v_iconst dX12_reckoner_120 ?_
        refine v_iconst dX12_reckoner_121 ?_
        refine v_bastore dX12_reckoner_122 rfl (by exact (show vp_in (nI 0) 2 from vp_in_nI (by omega) (by omega))) ?_
        rw [show (0 : Int32).toNatClampNeg = 0 from rfl, show vp_nar .boolean 0 = 0 from rfl]
        refine v_aload_n dX12_reckoner_123 rfl ?_
        refine v_getR (q := 52) dX12_reckoner_124 fl_RX12_39 rfl rfl ?_
        refine v_iconst dX12_reckoner_127 ?_
        refine v_iconst dX12_reckoner_128 ?_
        refine v_bastore dX12_reckoner_129 rfl (by exact (show vp_in (nI 1) 2 from vp_in_nI (by omega) (by omega))) ?_
        rw [show (1 : Int32).toNatClampNeg = 1 from rfl, show vp_nar .boolean 0 = 0 from rfl, ← hτ1]
        refine v_aload_n dX12_reckoner_130 rfl ?_
        refine v_getI dX12_reckoner_131 fl_RX12_65 rfl ?_
        rw [h31]
        refine v_ireturn dX12_reckoner_134 rfl (rfl) ?_
        exact h9
      · exact absurd (nI_le (by omega) (by omega)) zc76
    | succ j ih =>
      intro c τ x1 hc h1 h2 h3
      have hv4 : τ.1 44 4 = nI R.2.2.2.2.length := by rw [h1 _ _ (by omega)]; exact g4
      have hnx := ih (c + 1) (setI τ 45 c (τ.1 47 c)) x1 (by omega) (fun a b h => by rw [setI_ne (by omega)]; exact h1 a b h) h2 (fun b hb => by
        by_cases e : b = c
        · rw [e, setI_same]; exact h1 _ _ (by omega)
        · rw [setI_ne (by omega)]; exact h3 b (by omega))
      refine v_iload_n dX12_reckoner_69 rfl ?_
      refine v_iconst dX12_reckoner_70 ?_
      refine v_aload_n dX12_reckoner_71 rfl ?_
      refine v_getI dX12_reckoner_72 fl_RX12_182 rfl ?_
      rw [hv4]
      refine v_imul dX12_reckoner_75 ?_
      rw [show (4 : Int32) = nI 4 from rfl, pk_mul]
      refine v_icmp_ge dX12_reckoner_76 (fun zc76 => ?_) (fun zc76 => ?_)
      · exact absurd zc76 (nI_ge (by omega) (by omega))
      · refine v_aload_n dX12_reckoner_79 rfl ?_
        refine v_getR (q := 45) dX12_reckoner_80 fl_RX12_13 rfl rfl ?_
        refine v_iload_n dX12_reckoner_83 rfl ?_
        refine v_aload_n dX12_reckoner_84 rfl ?_
        refine v_getR (q := 47) dX12_reckoner_85 fl_RX12_23 rfl rfl ?_
        refine v_iload_n dX12_reckoner_88 rfl ?_
        refine v_iaload dX12_reckoner_89 rfl (by exact vp_in_nI (by omega) (by omega)) ?_
        rw [nI_clamp (by omega)]
        refine v_iastore dX12_reckoner_90 rfl (by exact vp_in_nI (by omega) (by omega)) ?_
        rw [nI_clamp (by omega)]
        refine v_iinc dX12_reckoner_91 rfl (Nat.le_of_ble_eq_true rfl) rfl ?_
        refine v_goto dX12_reckoner_94 ?_
        rw [nI_1]
        exact hnx
  refine ok_enter rfl (Nat.le_of_ble_eq_true rfl) ?_
  refine v_aload_n dX12_reckoner_0 rfl ?_
  refine v_callV0 dX12_reckoner_1 mv_RX12_173 rfl rfl (Nat.le_of_ble_eq_true rfl) ?_
  refine ok_isRead hX hT (fun τ1 x1 e1 => ?_)
  show V _ _ _ _ (_ :: _) _ _
  refine v_istore_n dX12_reckoner_4 (Nat.le_of_ble_eq_true rfl) rfl ?_
  refine v_aload_n dX12_reckoner_5 rfl ?_
  refine v_iconst dX12_reckoner_6 ?_
  refine v_putI dX12_reckoner_7 fp_RX12_73 rfl ?_
  refine v_iload_n dX12_reckoner_10 rfl ?_
  refine v_if_ne dX12_reckoner_11 (fun zc11 => ?_) (fun zc11 => ?_)
  · obtain ⟨-, R, q1, q2, q3⟩ := e1.resolve_left (fun h => zc11 h.1)
    refine v_aload_n dX12_reckoner_22 rfl ?_
    refine v_iconst dX12_reckoner_23 ?_
    refine v_putI dX12_reckoner_24 fp_RX12_20 rfl ?_
    refine v_aload_n dX12_reckoner_27 rfl ?_
    refine v_aload_n dX12_reckoner_28 rfl ?_
    refine v_getI dX12_reckoner_29 fl_RX12_121 rfl ?_
    rw [setI_ne (by omega), setI_ne (by omega), q3.1]
    refine v_putI dX12_reckoner_32 fp_RX12_7 rfl ?_
    refine v_aload_n dX12_reckoner_35 rfl ?_
    refine v_aload_n dX12_reckoner_36 rfl ?_
    refine v_getI dX12_reckoner_37 fl_RX12_127 rfl ?_
    rw [setI_ne (by omega), setI_ne (by omega), setI_ne (by omega), q3.2.1]
    refine v_putI dX12_reckoner_40 fp_RX12_176 rfl ?_
    refine v_aload_n dX12_reckoner_43 rfl ?_
    refine v_aload_n dX12_reckoner_44 rfl ?_
    refine v_getI dX12_reckoner_45 fl_RX12_130 rfl ?_
    rw [setI_ne (by omega), setI_ne (by omega), setI_ne (by omega), setI_ne (by omega), q3.2.2.1]
    refine v_putI dX12_reckoner_48 fp_RX12_179 rfl ?_
    refine v_aload_n dX12_reckoner_51 rfl ?_
    refine v_aload_n dX12_reckoner_52 rfl ?_
    refine v_getI dX12_reckoner_53 fl_RX12_133 rfl ?_
    rw [setI_ne (by omega), setI_ne (by omega), setI_ne (by omega), setI_ne (by omega), setI_ne (by omega), q3.2.2.2.1]
    refine v_putI dX12_reckoner_56 fp_RX12_65 rfl ?_
    refine v_aload_n dX12_reckoner_59 rfl ?_
    refine v_aload_n dX12_reckoner_60 rfl ?_
    refine v_getI dX12_reckoner_61 fl_RX12_161 rfl ?_
    rw [setI_ne (by omega), setI_ne (by omega), setI_ne (by omega), setI_ne (by omega), setI_ne (by omega), setI_ne (by omega), q3.2.2.2.2.1]
    refine v_putI dX12_reckoner_64 fp_RX12_182 rfl ?_
    refine v_iconst dX12_reckoner_67 ?_
    refine v_istore_n dX12_reckoner_68 (Nat.le_of_ble_eq_true rfl) rfl ?_
    obtain ⟨τ0, hτ0⟩ : ∃ τ0, τ0 = setI (setI (setI (setI (setI (setI (setI τ1 44 6 0) 44 13 (-1)) 44 0 (iz R.1)) 44 1 (nI R.2.1)) 44 2 (nI R.2.2.1)) 44 3 (nI R.2.2.2.1)) 44 4 (nI R.2.2.2.2.length) := ⟨_, rfl⟩
    rw [← hτ0]
    have k0 : ∀ a b, ¬ (a = 44 ∧ (b = 6 ∨ b = 13 ∨ b ≤ 4)) → τ0.1 a b = τ1.1 a b := fun a b h => by rw [hτ0, setI_ne (by omega), setI_ne (by omega), setI_ne (by omega), setI_ne (by omega), setI_ne (by omega), setI_ne (by omega), setI_ne (by omega)]
    refine copy R τ0 q1 (fun a b h => by rw [k0 a b (by omega)]; exact q2.1 a b (by omega)) (fun a b h => by rw [hτ0]; exact q2.2.1 a b h) (by rw [hτ0]; exact q2.2.2) ?_ ?_ (q3.kept (fun b h1 h2 => k0 _ _ (by omega)) (fun b => k0 _ _ (by omega))) ?_ ?_ ?_ ?_ ?_ _ 0 τ0 _ (Nat.zero_add _) (fun _ _ _ => rfl) rfl (fun b hb => absurd hb (by omega))
    · rw [hτ0, setI_ne (by omega), setI_ne (by omega), setI_ne (by omega), setI_ne (by omega), setI_ne (by omega), setI_ne (by omega), setI_same]
    · rw [hτ0, setI_ne (by omega), setI_ne (by omega), setI_ne (by omega), setI_ne (by omega), setI_ne (by omega), setI_same]
    · rw [hτ0, setI_ne (by omega), setI_ne (by omega), setI_ne (by omega), setI_ne (by omega), setI_same]
    · rw [hτ0, setI_ne (by omega), setI_ne (by omega), setI_ne (by omega), setI_same]
    · rw [hτ0, setI_ne (by omega), setI_ne (by omega), setI_same]
    · rw [hτ0, setI_ne (by omega), setI_same]
    · rw [hτ0, setI_same]
  · obtain ⟨-, f, q1, q2, q3, q4⟩ := e1.resolve_right (fun h => by rw [h.1] at zc11; exact absurd zc11 (by decide))
    refine v_bipush dX12_reckoner_14 ?_
    refine v_aload_n dX12_reckoner_16 rfl ?_
    refine v_getI dX12_reckoner_17 fl_RX12_107 rfl ?_
    rw [setI_ne (by omega), q4]
    refine v_isub dX12_reckoner_20 ?_
    refine v_ireturn dX12_reckoner_21 rfl (rfl) ?_
    exact hQ0 _ f q1 (fun a b h => by rw [setI_ne (by omega)]; exact q2.1 a b (by omega)) q2.2.1 q2.2.2 setI_same (by rw [setI_ne (by omega)]; exact q3)
end MR3
