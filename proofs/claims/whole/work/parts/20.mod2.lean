/-! ===== the reference: a stroke, states by number ===== -/
section M2
variable {D : Nat} {σ σ' : Wd} {Q : Option Value → Wd → Prop} {R : Rk} {s s' : St}
def mc (m : Nat) (s : St) : Nat := ((s.1 * 4 + s.2.1) * m + s.2.2.1) * 2 + s.2.2.2
def mdec (m c : Nat) : St := (c / 8 / m, c / 2 / m % 4, c / 2 % m, c % 2)
theorem ok_doStroke {i n : Nat} {k : Ky} (hM : RepM σ R) (hn : n ≤ 9) (hv : vR n R) (hS : RepS σ s) (hs : wS R.2.2.2.1 s) (hi : R.2.2.2.2[i]? = some k) (hQ : Q none (putS σ (rk_str R s k))) : Ok (D + 2) mX12_doStroke [.ref 44, .int (nI i)] σ Q := by
  have hmem : k ∈ R.2.2.2.2 := List.mem_of_getElem? hi
  have hil := (List.getElem?_eq_some_iff.mp hi).1
  rcases hv with e | ⟨v1, v2, v3, v4, v5, v6, v7, v8, v9⟩
  · subst e; exact absurd hmem List.not_mem_nil
  obtain ⟨k1, k2, k3, k4⟩ := v9 k hmem
  obtain ⟨h0, h1, h2, h3, h4, h5⟩ := id hM
  obtain ⟨a1, a3, a4⟩ := h5 i k hi
  obtain ⟨g1, g2, g3, g4⟩ := id hS
  obtain ⟨s1, s2, s3, s5⟩ := id hs
  have hm : 0 < R.2.2.2.1 := by omega
  have e4 : (4 : Int32) * nI i = nI (4 * i) := by rw [show (4 : Int32) = nI 4 from rfl, pk_mul]
  have e2 : nI (4 * i) + 2 = nI (4 * i + 2) := by rw [show (2 : Int32) = nI 2 from rfl, nI_add]
  have e3 : nI (4 * i) + 3 = nI (4 * i + 3) := by rw [show (3 : Int32) = nI 3 from rfl, nI_add]
  have f2 := rk_fig_w (R := R) (s := s) (d := k.2.2.1.toNat) hm
  refine ok_enter rfl (Nat.le_of_ble_eq_true rfl) ?_
  refine v_aload_n dX12_doStroke_0 rfl ?_
  refine v_getR (q := 45) dX12_doStroke_1 fl_RX12_13 rfl rfl ?_
  refine v_iconst dX12_doStroke_4 ?_
  refine v_iload_n dX12_doStroke_5 rfl ?_
  refine v_imul dX12_doStroke_6 ?_
  rw [e4]
  refine v_iaload dX12_doStroke_7 rfl (by exact vp_in_nI (by omega) (by omega)) ?_
  rw [nI_clamp (by omega), a1]
  refine v_istore_n dX12_doStroke_8 (Nat.le_of_ble_eq_true rfl) rfl ?_
  refine v_iload_n dX12_doStroke_9 rfl ?_
  rcases (show k.1 = 0 ∨ (k.1 = 1 ∨ k.1 = 2 ∨ k.1 = 3) ∨ k.1 = 4 ∨ k.1 = 5 ∨ k.1 = 6 ∨ k.1 = 7 by omega) with e | e | e | e | e | e
  · rw [e]
    refine v_tableIn (tgt := 52) dX12_doStroke_10 (by decide) (by decide) rfl (by decide) ?_
    refine v_aload_n dX12_doStroke_52 rfl ?_
    refine v_aload_n dX12_doStroke_53 rfl ?_
    refine v_getR (q := 45) dX12_doStroke_54 fl_RX12_13 rfl rfl ?_
    refine v_iconst dX12_doStroke_57 ?_
    refine v_iload_n dX12_doStroke_58 rfl ?_
    refine v_imul dX12_doStroke_59 ?_
    refine v_iconst dX12_doStroke_60 ?_
    refine v_iadd dX12_doStroke_61 ?_
    rw [e4, e2]
    refine v_iaload dX12_doStroke_62 rfl (by exact vp_in_nI (by omega) (by omega)) ?_
    rw [nI_clamp (by omega), a3, iz_toN (by omega)]
    refine v_callV1 dX12_doStroke_63 mv_RX12_215 rfl rfl (Nat.le_of_ble_eq_true rfl) ?_
    refine ok_figure hM hS v1 v3 hm v7 hs (by omega) ?_
    show V _ _ _ _ _ _ _
    refine v_goto dX12_doStroke_66 ?_
    refine v_return dX12_doStroke_258 rfl ?_
    unfold rk_str at hQ
    first | (rw [if_pos e] at hQ; exact hQ) | (rw [if_neg (by omega), if_pos (by omega), if_pos (by omega)] at hQ; exact putS_q hQ (by simp [setI_get]) (by simp [setI_get]) (by simp [setI_get]) (by simp [setI_get]; rfl) (fun a b h => by rw [setI_ne (by omega), setI_ne (by omega), setI_ne (by omega), setI_ne (by omega)]) rfl) | (rw [if_neg (by omega), if_pos (by omega), if_neg (by omega)] at hQ; exact putS_q hQ (by simp [setI_get]) (by simp [setI_get]) (by simp [setI_get]) (by simp [setI_get]; rfl) (fun a b h => by rw [setI_ne (by omega), setI_ne (by omega), setI_ne (by omega), setI_ne (by omega)]) rfl) | (rw [if_neg (by omega), if_neg (by omega), if_pos e, if_pos (by omega)] at hQ; exact putS_q hQ (by simp [setI_get]) (by simp [setI_get]; rfl) (by simp [setI_get]; rfl) (by simp [setI_get]; rfl) (fun a b h => by rw [setI_ne (by omega), setI_ne (by omega), setI_ne (by omega), setI_ne (by omega)]) rfl) | (rw [if_neg (by omega), if_neg (by omega), if_pos e, if_neg (by omega)] at hQ; exact putS_q hQ (by simp [setI_get]) (by simp [setI_get]; rfl) (by simp [setI_get]; rfl) (by simp [setI_get]; rfl) (fun a b h => by rw [setI_ne (by omega), setI_ne (by omega), setI_ne (by omega), setI_ne (by omega)]) rfl) | (rw [if_neg (by omega), if_neg (by omega), if_neg (by omega), if_pos e] at hQ; exact hQ) | (rw [if_neg (by omega), if_neg (by omega), if_neg (by omega), if_neg (by omega), if_pos e] at hQ; exact putS_q hQ (by simp [setI_get]) (by simp [setI_get]; exact g2) (by simp [setI_get]; exact g3) (by simp [setI_get]; rfl) (fun a b h => by rw [setI_ne (by omega), setI_ne (by omega)]) rfl) | (rw [if_neg (by omega), if_neg (by omega), if_neg (by omega), if_neg (by omega), if_neg (by omega)] at hQ; rw [putS_putS]; exact hQ)
  · have hsw : V mX12_doStroke (D + 2) 69 [some (.ref 44), some (.int (nI i)), some (.int (nI k.1))] [] σ Q := by
      refine v_aload_n dX12_doStroke_69 rfl ?_
      refine v_aload_n dX12_doStroke_70 rfl ?_
      refine v_getI dX12_doStroke_71 fl_RX12_200 rfl ?_
      rw [g2]
      refine v_if_le dX12_doStroke_74 (fun zc74 => ?_) (fun zc74 => ?_)
      · rw [show (0 : Int32) = nI 0 from rfl, nI_leI (by omega) (by omega)] at zc74
        refine v_aload_n dX12_doStroke_103 rfl ?_
        refine v_getI dX12_doStroke_104 fl_RX12_197 rfl ?_
        rw [g1]
        refine v_putI dX12_doStroke_107 fp_RX12_197 rfl ?_
        refine v_aload_n dX12_doStroke_110 rfl ?_
        refine v_aload_n dX12_doStroke_111 rfl ?_
        refine v_getI dX12_doStroke_112 fl_RX12_197 rfl ?_
        rw [setI_same]
        refine v_putI dX12_doStroke_115 fp_RX12_203 rfl ?_
        refine v_aload_n dX12_doStroke_118 rfl ?_
        refine v_iload_n dX12_doStroke_119 rfl ?_
        refine v_putI dX12_doStroke_120 fp_RX12_200 rfl ?_
        refine v_aload_n dX12_doStroke_123 rfl ?_
        refine v_iconst dX12_doStroke_124 ?_
        refine v_putZ dX12_doStroke_125 fp_RX12_206 rfl (by first | exact Or.inl rfl | exact Or.inr rfl) ?_
        refine v_goto dX12_doStroke_128 ?_
        refine v_return dX12_doStroke_258 rfl ?_
        unfold rk_str at hQ
        first | (rw [if_pos e] at hQ; exact hQ) | (rw [if_neg (by omega), if_pos (by omega), if_pos (by omega)] at hQ; exact putS_q hQ (by simp [setI_get]) (by simp [setI_get]) (by simp [setI_get]) (by simp [setI_get]; rfl) (fun a b h => by rw [setI_ne (by omega), setI_ne (by omega), setI_ne (by omega), setI_ne (by omega)]) rfl) | (rw [if_neg (by omega), if_pos (by omega), if_neg (by omega)] at hQ; exact putS_q hQ (by simp [setI_get]) (by simp [setI_get]) (by simp [setI_get]) (by simp [setI_get]; rfl) (fun a b h => by rw [setI_ne (by omega), setI_ne (by omega), setI_ne (by omega), setI_ne (by omega)]) rfl) | (rw [if_neg (by omega), if_neg (by omega), if_pos e, if_pos (by omega)] at hQ; exact putS_q hQ (by simp [setI_get]) (by simp [setI_get]; rfl) (by simp [setI_get]; rfl) (by simp [setI_get]; rfl) (fun a b h => by rw [setI_ne (by omega), setI_ne (by omega), setI_ne (by omega), setI_ne (by omega)]) rfl) | (rw [if_neg (by omega), if_neg (by omega), if_pos e, if_neg (by omega)] at hQ; exact putS_q hQ (by simp [setI_get]) (by simp [setI_get]; rfl) (by simp [setI_get]; rfl) (by simp [setI_get]; rfl) (fun a b h => by rw [setI_ne (by omega), setI_ne (by omega), setI_ne (by omega), setI_ne (by omega)]) rfl) | (rw [if_neg (by omega), if_neg (by omega), if_neg (by omega), if_pos e] at hQ; exact hQ) | (rw [if_neg (by omega), if_neg (by omega), if_neg (by omega), if_neg (by omega), if_pos e] at hQ; exact putS_q hQ (by simp [setI_get]) (by simp [setI_get]; exact g2) (by simp [setI_get]; exact g3) (by simp [setI_get]; rfl) (fun a b h => by rw [setI_ne (by omega), setI_ne (by omega)]) rfl) | (rw [if_neg (by omega), if_neg (by omega), if_neg (by omega), if_neg (by omega), if_neg (by omega)] at hQ; rw [putS_putS]; exact hQ)
      · rw [show (0 : Int32) = nI 0 from rfl, nI_leI (by omega) (by omega)] at zc74
        refine v_aload_n dX12_doStroke_77 rfl ?_
        refine v_getI dX12_doStroke_78 fl_RX12_206 rfl ?_
        rw [g4]
        refine v_if_eq dX12_doStroke_81 (fun zc81 => ?_) (fun zc81 => ?_)
        · rw [show (0 : Int32) = nI 0 from rfl, nI_eq (by omega) (by omega)] at zc81
          refine v_aload_n dX12_doStroke_103 rfl ?_
          refine v_getI dX12_doStroke_104 fl_RX12_197 rfl ?_
          rw [g1]
          refine v_putI dX12_doStroke_107 fp_RX12_197 rfl ?_
          refine v_aload_n dX12_doStroke_110 rfl ?_
          refine v_aload_n dX12_doStroke_111 rfl ?_
          refine v_getI dX12_doStroke_112 fl_RX12_197 rfl ?_
          rw [setI_same]
          refine v_putI dX12_doStroke_115 fp_RX12_203 rfl ?_
          refine v_aload_n dX12_doStroke_118 rfl ?_
          refine v_iload_n dX12_doStroke_119 rfl ?_
          refine v_putI dX12_doStroke_120 fp_RX12_200 rfl ?_
          refine v_aload_n dX12_doStroke_123 rfl ?_
          refine v_iconst dX12_doStroke_124 ?_
          refine v_putZ dX12_doStroke_125 fp_RX12_206 rfl (by first | exact Or.inl rfl | exact Or.inr rfl) ?_
          refine v_goto dX12_doStroke_128 ?_
          refine v_return dX12_doStroke_258 rfl ?_
          unfold rk_str at hQ
          first | (rw [if_pos e] at hQ; exact hQ) | (rw [if_neg (by omega), if_pos (by omega), if_pos (by omega)] at hQ; exact putS_q hQ (by simp [setI_get]) (by simp [setI_get]) (by simp [setI_get]) (by simp [setI_get]; rfl) (fun a b h => by rw [setI_ne (by omega), setI_ne (by omega), setI_ne (by omega), setI_ne (by omega)]) rfl) | (rw [if_neg (by omega), if_pos (by omega), if_neg (by omega)] at hQ; exact putS_q hQ (by simp [setI_get]) (by simp [setI_get]) (by simp [setI_get]) (by simp [setI_get]; rfl) (fun a b h => by rw [setI_ne (by omega), setI_ne (by omega), setI_ne (by omega), setI_ne (by omega)]) rfl) | (rw [if_neg (by omega), if_neg (by omega), if_pos e, if_pos (by omega)] at hQ; exact putS_q hQ (by simp [setI_get]) (by simp [setI_get]; rfl) (by simp [setI_get]; rfl) (by simp [setI_get]; rfl) (fun a b h => by rw [setI_ne (by omega), setI_ne (by omega), setI_ne (by omega), setI_ne (by omega)]) rfl) | (rw [if_neg (by omega), if_neg (by omega), if_pos e, if_neg (by omega)] at hQ; exact putS_q hQ (by simp [setI_get]) (by simp [setI_get]; rfl) (by simp [setI_get]; rfl) (by simp [setI_get]; rfl) (fun a b h => by rw [setI_ne (by omega), setI_ne (by omega), setI_ne (by omega), setI_ne (by omega)]) rfl) | (rw [if_neg (by omega), if_neg (by omega), if_neg (by omega), if_pos e] at hQ; exact hQ) | (rw [if_neg (by omega), if_neg (by omega), if_neg (by omega), if_neg (by omega), if_pos e] at hQ; exact putS_q hQ (by simp [setI_get]) (by simp [setI_get]; exact g2) (by simp [setI_get]; exact g3) (by simp [setI_get]; rfl) (fun a b h => by rw [setI_ne (by omega), setI_ne (by omega)]) rfl) | (rw [if_neg (by omega), if_neg (by omega), if_neg (by omega), if_neg (by omega), if_neg (by omega)] at hQ; rw [putS_putS]; exact hQ)
        · rw [show (0 : Int32) = nI 0 from rfl, nI_eq (by omega) (by omega)] at zc81
          refine v_aload_n dX12_doStroke_84 rfl ?_
          refine v_aload_n dX12_doStroke_85 rfl ?_
          refine v_getI dX12_doStroke_86 fl_RX12_200 rfl ?_
          rw [g2]
          refine v_aload_n dX12_doStroke_89 rfl ?_
          refine v_getI dX12_doStroke_90 fl_RX12_203 rfl ?_
          rw [g3]
          refine v_aload_n dX12_doStroke_93 rfl ?_
          refine v_getI dX12_doStroke_94 fl_RX12_197 rfl ?_
          rw [g1]
          refine v_callV3 dX12_doStroke_97 mv_RX12_219 rfl rfl (Nat.le_of_ble_eq_true rfl) ?_
          refine ok_mreckon h0 h3 v1 hm v7 (by omega) (by omega) (by omega) ?_
          show V _ _ _ _ (_ :: _) _ _
          refine v_goto dX12_doStroke_100 ?_
          refine v_putI dX12_doStroke_107 fp_RX12_197 rfl ?_
          refine v_aload_n dX12_doStroke_110 rfl ?_
          refine v_aload_n dX12_doStroke_111 rfl ?_
          refine v_getI dX12_doStroke_112 fl_RX12_197 rfl ?_
          rw [setI_same]
          refine v_putI dX12_doStroke_115 fp_RX12_203 rfl ?_
          refine v_aload_n dX12_doStroke_118 rfl ?_
          refine v_iload_n dX12_doStroke_119 rfl ?_
          refine v_putI dX12_doStroke_120 fp_RX12_200 rfl ?_
          refine v_aload_n dX12_doStroke_123 rfl ?_
          refine v_iconst dX12_doStroke_124 ?_
          refine v_putZ dX12_doStroke_125 fp_RX12_206 rfl (by first | exact Or.inl rfl | exact Or.inr rfl) ?_
          refine v_goto dX12_doStroke_128 ?_
          refine v_return dX12_doStroke_258 rfl ?_
          unfold rk_str at hQ
          first | (rw [if_pos e] at hQ; exact hQ) | (rw [if_neg (by omega), if_pos (by omega), if_pos (by omega)] at hQ; exact putS_q hQ (by simp [setI_get]) (by simp [setI_get]) (by simp [setI_get]) (by simp [setI_get]; rfl) (fun a b h => by rw [setI_ne (by omega), setI_ne (by omega), setI_ne (by omega), setI_ne (by omega)]) rfl) | (rw [if_neg (by omega), if_pos (by omega), if_neg (by omega)] at hQ; exact putS_q hQ (by simp [setI_get]) (by simp [setI_get]) (by simp [setI_get]) (by simp [setI_get]; rfl) (fun a b h => by rw [setI_ne (by omega), setI_ne (by omega), setI_ne (by omega), setI_ne (by omega)]) rfl) | (rw [if_neg (by omega), if_neg (by omega), if_pos e, if_pos (by omega)] at hQ; exact putS_q hQ (by simp [setI_get]) (by simp [setI_get]; rfl) (by simp [setI_get]; rfl) (by simp [setI_get]; rfl) (fun a b h => by rw [setI_ne (by omega), setI_ne (by omega), setI_ne (by omega), setI_ne (by omega)]) rfl) | (rw [if_neg (by omega), if_neg (by omega), if_pos e, if_neg (by omega)] at hQ; exact putS_q hQ (by simp [setI_get]) (by simp [setI_get]; rfl) (by simp [setI_get]; rfl) (by simp [setI_get]; rfl) (fun a b h => by rw [setI_ne (by omega), setI_ne (by omega), setI_ne (by omega), setI_ne (by omega)]) rfl) | (rw [if_neg (by omega), if_neg (by omega), if_neg (by omega), if_pos e] at hQ; exact hQ) | (rw [if_neg (by omega), if_neg (by omega), if_neg (by omega), if_neg (by omega), if_pos e] at hQ; exact putS_q hQ (by simp [setI_get]) (by simp [setI_get]; exact g2) (by simp [setI_get]; exact g3) (by simp [setI_get]; rfl) (fun a b h => by rw [setI_ne (by omega), setI_ne (by omega)]) rfl) | (rw [if_neg (by omega), if_neg (by omega), if_neg (by omega), if_neg (by omega), if_neg (by omega)] at hQ; rw [putS_putS]; exact hQ)
    rcases e with e | e | e
    · rw [e] at hsw ⊢
      exact v_tableIn (tgt := 69) dX12_doStroke_10 (by decide) (by decide) rfl (by decide) hsw
    · rw [e] at hsw ⊢
      exact v_tableIn (tgt := 69) dX12_doStroke_10 (by decide) (by decide) rfl (by decide) hsw
    · rw [e] at hsw ⊢
      exact v_tableIn (tgt := 69) dX12_doStroke_10 (by decide) (by decide) rfl (by decide) hsw
  · rw [e]
    refine v_tableIn (tgt := 131) dX12_doStroke_10 (by decide) (by decide) rfl (by decide) ?_
    refine v_aload_n dX12_doStroke_131 rfl ?_
    refine v_aload_n dX12_doStroke_132 rfl ?_
    refine v_getI dX12_doStroke_133 fl_RX12_200 rfl ?_
    rw [g2]
    refine v_if_le dX12_doStroke_136 (fun zc136 => ?_) (fun zc136 => ?_)
    · rw [show (0 : Int32) = nI 0 from rfl, nI_leI (by omega) (by omega)] at zc136
      refine v_aload_n dX12_doStroke_158 rfl ?_
      refine v_getI dX12_doStroke_159 fl_RX12_197 rfl ?_
      rw [g1]
      refine v_putI dX12_doStroke_162 fp_RX12_197 rfl ?_
      refine v_aload_n dX12_doStroke_165 rfl ?_
      refine v_iconst dX12_doStroke_166 ?_
      refine v_putI dX12_doStroke_167 fp_RX12_203 rfl ?_
      refine v_aload_n dX12_doStroke_170 rfl ?_
      refine v_iconst dX12_doStroke_171 ?_
      refine v_putI dX12_doStroke_172 fp_RX12_200 rfl ?_
      refine v_aload_n dX12_doStroke_175 rfl ?_
      refine v_iconst dX12_doStroke_176 ?_
      refine v_putZ dX12_doStroke_177 fp_RX12_206 rfl (by first | exact Or.inl rfl | exact Or.inr rfl) ?_
      refine v_goto dX12_doStroke_180 ?_
      refine v_return dX12_doStroke_258 rfl ?_
      unfold rk_str at hQ
      first | (rw [if_pos e] at hQ; exact hQ) | (rw [if_neg (by omega), if_pos (by omega), if_pos (by omega)] at hQ; exact putS_q hQ (by simp [setI_get]) (by simp [setI_get]) (by simp [setI_get]) (by simp [setI_get]; rfl) (fun a b h => by rw [setI_ne (by omega), setI_ne (by omega), setI_ne (by omega), setI_ne (by omega)]) rfl) | (rw [if_neg (by omega), if_pos (by omega), if_neg (by omega)] at hQ; exact putS_q hQ (by simp [setI_get]) (by simp [setI_get]) (by simp [setI_get]) (by simp [setI_get]; rfl) (fun a b h => by rw [setI_ne (by omega), setI_ne (by omega), setI_ne (by omega), setI_ne (by omega)]) rfl) | (rw [if_neg (by omega), if_neg (by omega), if_pos e, if_pos (by omega)] at hQ; exact putS_q hQ (by simp [setI_get]) (by simp [setI_get]; rfl) (by simp [setI_get]; rfl) (by simp [setI_get]; rfl) (fun a b h => by rw [setI_ne (by omega), setI_ne (by omega), setI_ne (by omega), setI_ne (by omega)]) rfl) | (rw [if_neg (by omega), if_neg (by omega), if_pos e, if_neg (by omega)] at hQ; exact putS_q hQ (by simp [setI_get]) (by simp [setI_get]; rfl) (by simp [setI_get]; rfl) (by simp [setI_get]; rfl) (fun a b h => by rw [setI_ne (by omega), setI_ne (by omega), setI_ne (by omega), setI_ne (by omega)]) rfl) | (rw [if_neg (by omega), if_neg (by omega), if_neg (by omega), if_pos e] at hQ; exact hQ) | (rw [if_neg (by omega), if_neg (by omega), if_neg (by omega), if_neg (by omega), if_pos e] at hQ; exact putS_q hQ (by simp [setI_get]) (by simp [setI_get]; exact g2) (by simp [setI_get]; exact g3) (by simp [setI_get]; rfl) (fun a b h => by rw [setI_ne (by omega), setI_ne (by omega)]) rfl) | (rw [if_neg (by omega), if_neg (by omega), if_neg (by omega), if_neg (by omega), if_neg (by omega)] at hQ; rw [putS_putS]; exact hQ)
    · rw [show (0 : Int32) = nI 0 from rfl, nI_leI (by omega) (by omega)] at zc136
      refine v_aload_n dX12_doStroke_139 rfl ?_
      refine v_aload_n dX12_doStroke_140 rfl ?_
      refine v_getI dX12_doStroke_141 fl_RX12_200 rfl ?_
      rw [g2]
      refine v_aload_n dX12_doStroke_144 rfl ?_
      refine v_getI dX12_doStroke_145 fl_RX12_203 rfl ?_
      rw [g3]
      refine v_aload_n dX12_doStroke_148 rfl ?_
      refine v_getI dX12_doStroke_149 fl_RX12_197 rfl ?_
      rw [g1]
      refine v_callV3 dX12_doStroke_152 mv_RX12_219 rfl rfl (Nat.le_of_ble_eq_true rfl) ?_
      refine ok_mreckon h0 h3 v1 hm v7 (by omega) (by omega) (by omega) ?_
      show V _ _ _ _ (_ :: _) _ _
      refine v_goto dX12_doStroke_155 ?_
      refine v_putI dX12_doStroke_162 fp_RX12_197 rfl ?_
      refine v_aload_n dX12_doStroke_165 rfl ?_
      refine v_iconst dX12_doStroke_166 ?_
      refine v_putI dX12_doStroke_167 fp_RX12_203 rfl ?_
      refine v_aload_n dX12_doStroke_170 rfl ?_
      refine v_iconst dX12_doStroke_171 ?_
      refine v_putI dX12_doStroke_172 fp_RX12_200 rfl ?_
      refine v_aload_n dX12_doStroke_175 rfl ?_
      refine v_iconst dX12_doStroke_176 ?_
      refine v_putZ dX12_doStroke_177 fp_RX12_206 rfl (by first | exact Or.inl rfl | exact Or.inr rfl) ?_
      refine v_goto dX12_doStroke_180 ?_
      refine v_return dX12_doStroke_258 rfl ?_
      unfold rk_str at hQ
      first | (rw [if_pos e] at hQ; exact hQ) | (rw [if_neg (by omega), if_pos (by omega), if_pos (by omega)] at hQ; exact putS_q hQ (by simp [setI_get]) (by simp [setI_get]) (by simp [setI_get]) (by simp [setI_get]; rfl) (fun a b h => by rw [setI_ne (by omega), setI_ne (by omega), setI_ne (by omega), setI_ne (by omega)]) rfl) | (rw [if_neg (by omega), if_pos (by omega), if_neg (by omega)] at hQ; exact putS_q hQ (by simp [setI_get]) (by simp [setI_get]) (by simp [setI_get]) (by simp [setI_get]; rfl) (fun a b h => by rw [setI_ne (by omega), setI_ne (by omega), setI_ne (by omega), setI_ne (by omega)]) rfl) | (rw [if_neg (by omega), if_neg (by omega), if_pos e, if_pos (by omega)] at hQ; exact putS_q hQ (by simp [setI_get]) (by simp [setI_get]; rfl) (by simp [setI_get]; rfl) (by simp [setI_get]; rfl) (fun a b h => by rw [setI_ne (by omega), setI_ne (by omega), setI_ne (by omega), setI_ne (by omega)]) rfl) | (rw [if_neg (by omega), if_neg (by omega), if_pos e, if_neg (by omega)] at hQ; exact putS_q hQ (by simp [setI_get]) (by simp [setI_get]; rfl) (by simp [setI_get]; rfl) (by simp [setI_get]; rfl) (fun a b h => by rw [setI_ne (by omega), setI_ne (by omega), setI_ne (by omega), setI_ne (by omega)]) rfl) | (rw [if_neg (by omega), if_neg (by omega), if_neg (by omega), if_pos e] at hQ; exact hQ) | (rw [if_neg (by omega), if_neg (by omega), if_neg (by omega), if_neg (by omega), if_pos e] at hQ; exact putS_q hQ (by simp [setI_get]) (by simp [setI_get]; exact g2) (by simp [setI_get]; exact g3) (by simp [setI_get]; rfl) (fun a b h => by rw [setI_ne (by omega), setI_ne (by omega)]) rfl) | (rw [if_neg (by omega), if_neg (by omega), if_neg (by omega), if_neg (by omega), if_neg (by omega)] at hQ; rw [putS_putS]; exact hQ)
  · rw [e]
    refine v_tableIn (tgt := 183) dX12_doStroke_10 (by decide) (by decide) rfl (by decide) ?_
    refine v_aload_n dX12_doStroke_183 rfl ?_
    refine v_callV0 dX12_doStroke_184 mv_RX12_185 rfl rfl (Nat.le_of_ble_eq_true rfl) ?_
    refine ok_start ?_
    show V _ _ _ _ _ _ _
    refine v_goto dX12_doStroke_187 ?_
    refine v_return dX12_doStroke_258 rfl ?_
    unfold rk_str at hQ
    first | (rw [if_pos e] at hQ; exact hQ) | (rw [if_neg (by omega), if_pos (by omega), if_pos (by omega)] at hQ; exact putS_q hQ (by simp [setI_get]) (by simp [setI_get]) (by simp [setI_get]) (by simp [setI_get]; rfl) (fun a b h => by rw [setI_ne (by omega), setI_ne (by omega), setI_ne (by omega), setI_ne (by omega)]) rfl) | (rw [if_neg (by omega), if_pos (by omega), if_neg (by omega)] at hQ; exact putS_q hQ (by simp [setI_get]) (by simp [setI_get]) (by simp [setI_get]) (by simp [setI_get]; rfl) (fun a b h => by rw [setI_ne (by omega), setI_ne (by omega), setI_ne (by omega), setI_ne (by omega)]) rfl) | (rw [if_neg (by omega), if_neg (by omega), if_pos e, if_pos (by omega)] at hQ; exact putS_q hQ (by simp [setI_get]) (by simp [setI_get]; rfl) (by simp [setI_get]; rfl) (by simp [setI_get]; rfl) (fun a b h => by rw [setI_ne (by omega), setI_ne (by omega), setI_ne (by omega), setI_ne (by omega)]) rfl) | (rw [if_neg (by omega), if_neg (by omega), if_pos e, if_neg (by omega)] at hQ; exact putS_q hQ (by simp [setI_get]) (by simp [setI_get]; rfl) (by simp [setI_get]; rfl) (by simp [setI_get]; rfl) (fun a b h => by rw [setI_ne (by omega), setI_ne (by omega), setI_ne (by omega), setI_ne (by omega)]) rfl) | (rw [if_neg (by omega), if_neg (by omega), if_neg (by omega), if_pos e] at hQ; exact hQ) | (rw [if_neg (by omega), if_neg (by omega), if_neg (by omega), if_neg (by omega), if_pos e] at hQ; exact putS_q hQ (by simp [setI_get]) (by simp [setI_get]; exact g2) (by simp [setI_get]; exact g3) (by simp [setI_get]; rfl) (fun a b h => by rw [setI_ne (by omega), setI_ne (by omega)]) rfl) | (rw [if_neg (by omega), if_neg (by omega), if_neg (by omega), if_neg (by omega), if_neg (by omega)] at hQ; rw [putS_putS]; exact hQ)
  · rw [e]
    refine v_tableIn (tgt := 190) dX12_doStroke_10 (by decide) (by decide) rfl (by decide) ?_
    refine v_aload_n dX12_doStroke_190 rfl ?_
    refine v_aload_n dX12_doStroke_191 rfl ?_
    refine v_aload_n dX12_doStroke_192 rfl ?_
    refine v_getR (q := 45) dX12_doStroke_193 fl_RX12_13 rfl rfl ?_
    refine v_iconst dX12_doStroke_196 ?_
    refine v_iload_n dX12_doStroke_197 rfl ?_
    refine v_imul dX12_doStroke_198 ?_
    refine v_iconst dX12_doStroke_199 ?_
    refine v_iadd dX12_doStroke_200 ?_
    rw [e4, e3]
    refine v_iaload dX12_doStroke_201 rfl (by exact vp_in_nI (by omega) (by omega)) ?_
    rw [nI_clamp (by omega), a4 (by omega), iz_toN (by omega)]
    refine v_aload_n dX12_doStroke_202 rfl ?_
    refine v_getI dX12_doStroke_203 fl_RX12_197 rfl ?_
    rw [g1]
    refine v_aload_n dX12_doStroke_206 rfl ?_
    refine v_getR (q := 45) dX12_doStroke_207 fl_RX12_13 rfl rfl ?_
    refine v_iconst dX12_doStroke_210 ?_
    refine v_iload_n dX12_doStroke_211 rfl ?_
    refine v_imul dX12_doStroke_212 ?_
    refine v_iconst dX12_doStroke_213 ?_
    refine v_iadd dX12_doStroke_214 ?_
    rw [e4, e2]
    refine v_iaload dX12_doStroke_215 rfl (by exact vp_in_nI (by omega) (by omega)) ?_
    rw [nI_clamp (by omega), a3, iz_toN (by omega)]
    refine v_callV3 dX12_doStroke_216 mv_RX12_219 rfl rfl (Nat.le_of_ble_eq_true rfl) ?_
    refine ok_mreckon h0 h3 v1 hm v7 (by omega) (by omega) (by omega) ?_
    show V _ _ _ _ (_ :: _) _ _
    refine v_putI dX12_doStroke_219 fp_RX12_197 rfl ?_
    refine v_aload_n dX12_doStroke_222 rfl ?_
    refine v_iconst dX12_doStroke_223 ?_
    refine v_putZ dX12_doStroke_224 fp_RX12_206 rfl (by first | exact Or.inl rfl | exact Or.inr rfl) ?_
    refine v_goto dX12_doStroke_227 ?_
    refine v_return dX12_doStroke_258 rfl ?_
    unfold rk_str at hQ
    first | (rw [if_pos e] at hQ; exact hQ) | (rw [if_neg (by omega), if_pos (by omega), if_pos (by omega)] at hQ; exact putS_q hQ (by simp [setI_get]) (by simp [setI_get]) (by simp [setI_get]) (by simp [setI_get]; rfl) (fun a b h => by rw [setI_ne (by omega), setI_ne (by omega), setI_ne (by omega), setI_ne (by omega)]) rfl) | (rw [if_neg (by omega), if_pos (by omega), if_neg (by omega)] at hQ; exact putS_q hQ (by simp [setI_get]) (by simp [setI_get]) (by simp [setI_get]) (by simp [setI_get]; rfl) (fun a b h => by rw [setI_ne (by omega), setI_ne (by omega), setI_ne (by omega), setI_ne (by omega)]) rfl) | (rw [if_neg (by omega), if_neg (by omega), if_pos e, if_pos (by omega)] at hQ; exact putS_q hQ (by simp [setI_get]) (by simp [setI_get]; rfl) (by simp [setI_get]; rfl) (by simp [setI_get]; rfl) (fun a b h => by rw [setI_ne (by omega), setI_ne (by omega), setI_ne (by omega), setI_ne (by omega)]) rfl) | (rw [if_neg (by omega), if_neg (by omega), if_pos e, if_neg (by omega)] at hQ; exact putS_q hQ (by simp [setI_get]) (by simp [setI_get]; rfl) (by simp [setI_get]; rfl) (by simp [setI_get]; rfl) (fun a b h => by rw [setI_ne (by omega), setI_ne (by omega), setI_ne (by omega), setI_ne (by omega)]) rfl) | (rw [if_neg (by omega), if_neg (by omega), if_neg (by omega), if_pos e] at hQ; exact hQ) | (rw [if_neg (by omega), if_neg (by omega), if_neg (by omega), if_neg (by omega), if_pos e] at hQ; exact putS_q hQ (by simp [setI_get]) (by simp [setI_get]; exact g2) (by simp [setI_get]; exact g3) (by simp [setI_get]; rfl) (fun a b h => by rw [setI_ne (by omega), setI_ne (by omega)]) rfl) | (rw [if_neg (by omega), if_neg (by omega), if_neg (by omega), if_neg (by omega), if_neg (by omega)] at hQ; rw [putS_putS]; exact hQ)
  · rw [e]
    refine v_tableOut (tgt := 230) dX12_doStroke_10 (by decide) (by decide) ?_
    refine v_aload_n dX12_doStroke_230 rfl ?_
    refine v_aload_n dX12_doStroke_231 rfl ?_
    refine v_getR (q := 45) dX12_doStroke_232 fl_RX12_13 rfl rfl ?_
    refine v_iconst dX12_doStroke_235 ?_
    refine v_iload_n dX12_doStroke_236 rfl ?_
    refine v_imul dX12_doStroke_237 ?_
    refine v_iconst dX12_doStroke_238 ?_
    refine v_iadd dX12_doStroke_239 ?_
    rw [e4, e2]
    refine v_iaload dX12_doStroke_240 rfl (by exact vp_in_nI (by omega) (by omega)) ?_
    rw [nI_clamp (by omega), a3, iz_toN (by omega)]
    refine v_callV1 dX12_doStroke_241 mv_RX12_215 rfl rfl (Nat.le_of_ble_eq_true rfl) ?_
    refine ok_figure hM hS v1 v3 hm v7 hs (by omega) ?_
    show V _ _ _ _ _ _ _
    refine v_aload_n dX12_doStroke_244 rfl ?_
    refine v_aload_n dX12_doStroke_245 rfl ?_
    refine v_getR (q := 45) dX12_doStroke_246 fl_RX12_13 rfl rfl ?_
    refine v_iconst dX12_doStroke_249 ?_
    refine v_iload_n dX12_doStroke_250 rfl ?_
    refine v_imul dX12_doStroke_251 ?_
    refine v_iconst dX12_doStroke_252 ?_
    refine v_iadd dX12_doStroke_253 ?_
    rw [e4, e3]
    refine v_iaload dX12_doStroke_254 rfl (by exact vp_in_nI (by omega) (by omega)) ?_
    rw [nI_clamp (by omega), putS_o (by omega), a4 (by omega), iz_toN (by omega)]
    refine v_callV1 dX12_doStroke_255 mv_RX12_215 rfl rfl (Nat.le_of_ble_eq_true rfl) ?_
    refine ok_figure hM.putS putS_rep v1 v3 hm v7 (f2 (by omega) hs) (by omega) ?_
    show V _ _ _ _ _ _ _
    refine v_return dX12_doStroke_258 rfl ?_
    unfold rk_str at hQ
    first | (rw [if_pos e] at hQ; exact hQ) | (rw [if_neg (by omega), if_pos (by omega), if_pos (by omega)] at hQ; exact putS_q hQ (by simp [setI_get]) (by simp [setI_get]) (by simp [setI_get]) (by simp [setI_get]; rfl) (fun a b h => by rw [setI_ne (by omega), setI_ne (by omega), setI_ne (by omega), setI_ne (by omega)]) rfl) | (rw [if_neg (by omega), if_pos (by omega), if_neg (by omega)] at hQ; exact putS_q hQ (by simp [setI_get]) (by simp [setI_get]) (by simp [setI_get]) (by simp [setI_get]; rfl) (fun a b h => by rw [setI_ne (by omega), setI_ne (by omega), setI_ne (by omega), setI_ne (by omega)]) rfl) | (rw [if_neg (by omega), if_neg (by omega), if_pos e, if_pos (by omega)] at hQ; exact putS_q hQ (by simp [setI_get]) (by simp [setI_get]; rfl) (by simp [setI_get]; rfl) (by simp [setI_get]; rfl) (fun a b h => by rw [setI_ne (by omega), setI_ne (by omega), setI_ne (by omega), setI_ne (by omega)]) rfl) | (rw [if_neg (by omega), if_neg (by omega), if_pos e, if_neg (by omega)] at hQ; exact putS_q hQ (by simp [setI_get]) (by simp [setI_get]; rfl) (by simp [setI_get]; rfl) (by simp [setI_get]; rfl) (fun a b h => by rw [setI_ne (by omega), setI_ne (by omega), setI_ne (by omega), setI_ne (by omega)]) rfl) | (rw [if_neg (by omega), if_neg (by omega), if_neg (by omega), if_pos e] at hQ; exact hQ) | (rw [if_neg (by omega), if_neg (by omega), if_neg (by omega), if_neg (by omega), if_pos e] at hQ; exact putS_q hQ (by simp [setI_get]) (by simp [setI_get]; exact g2) (by simp [setI_get]; exact g3) (by simp [setI_get]; rfl) (fun a b h => by rw [setI_ne (by omega), setI_ne (by omega)]) rfl) | (rw [if_neg (by omega), if_neg (by omega), if_neg (by omega), if_neg (by omega), if_neg (by omega)] at hQ; rw [putS_putS]; exact hQ)
theorem mc_lt {m : Nat} (hm : 0 < m) (hs : wS m s) : mc m s < 8 * m * m := by
  obtain ⟨s1, s2, s3, s5⟩ := hs
  unfold mc
  have h1 : (s.1 * 4 + s.2.1) * m ≤ (4 * m - 1) * m := Nat.mul_le_mul_right _ (by omega)
  have h2 : (4 * m - 1) * m = 4 * m * m - m := by rw [Nat.sub_mul, Nat.one_mul]
  have h3 : m ≤ 4 * m * m := Nat.le_mul_of_pos_left m (by omega)
  have h4 : 8 * m * m = 2 * (4 * m * m) := by rw [Nat.mul_assoc, Nat.mul_assoc, ← Nat.mul_assoc 2, ]
  omega
theorem mc_0 (hs : wS 0 s) : s.2.1 = 0 → s.2.2.2 = 0 → mc 0 s = 0 := by
  obtain ⟨s1, s2, s3, s5⟩ := hs
  intro h1 h2
  unfold mc
  omega
theorem mdec_mc {m : Nat} (hm : 0 < m) (hs : wS m s) : mdec m (mc m s) = s := by
  obtain ⟨s1, s2, s3, s5⟩ := hs
  have e1 : mc m s % 2 = s.2.2.2 := by unfold mc; omega
  have e2 : mc m s / 2 = (s.1 * 4 + s.2.1) * m + s.2.2.1 := by unfold mc; omega
  have e3 : mc m s / 2 % m = s.2.2.1 := by rw [e2, Nat.add_comm, Nat.add_mul_mod_self_right, Nat.mod_eq_of_lt (by omega)]
  have e4 : mc m s / 2 / m = s.1 * 4 + s.2.1 := by
    rw [e2, Nat.add_comm, Nat.add_mul_div_right _ _ hm, Nat.div_eq_of_lt (by omega), Nat.zero_add]
  have e5 : mc m s / 8 / m = s.1 := by
    rw [show (8 : Nat) = 2 * 4 from rfl, ← Nat.div_div_eq_div_mul, Nat.div_div_eq_div_mul _ 4 m, Nat.mul_comm 4 m, ← Nat.div_div_eq_div_mul, e4]
    omega
  unfold mdec
  rw [e5, e4, e3, e1]
  obtain ⟨a, b, c, d⟩ := s
  dsimp only
  rw [show (a * 4 + b) % 4 = b by dsimp only at s2; omega]
theorem mdec_w {m c : Nat} (hm : 0 < m) (hc : c < 8 * m * m) : wS m (mdec m c) := by
  have h1 : c / 8 / m < m := by
    rw [Nat.div_lt_iff_lt_mul hm, Nat.div_lt_iff_lt_mul (by decide)]
    rw [Nat.mul_comm (m * m) 8, ← Nat.mul_assoc]
    exact hc
  have h2 := Nat.mod_lt (c / 2) hm
  refine ⟨by show c / 8 / m < _; omega, by show c / 2 / m % 4 ≤ 3; omega, by show c / 2 % m < _; omega, by show c % 2 ≤ 1; omega⟩
theorem mc_mdec {m c : Nat} (hm : 0 < m) : mc m (mdec m c) = c := by
  show ((c / 8 / m * 4 + c / 2 / m % 4) * m + c / 2 % m) * 2 + c % 2 = c
  have e1 : c / 8 / m = c / 2 / m / 4 := by
    rw [show (8 : Nat) = 2 * 4 from rfl, ← Nat.div_div_eq_div_mul, Nat.div_div_eq_div_mul _ 4 m, Nat.mul_comm 4 m, ← Nat.div_div_eq_div_mul]
  have e2 : c / 8 / m * 4 + c / 2 / m % 4 = c / 2 / m := by rw [e1]; omega
  rw [e2, Nat.mul_comm (c / 2 / m) m, Nat.div_add_mod]
  omega
theorem ok_stateNow {m : Nat} (h3 : σ.1 44 3 = nI m) (hS : RepS σ s) (hs : wS m s) (hm2 : m ≤ 100) (hQ : Q (some (.int (nI (mc m s)))) σ) : Ok D mX12_stateNow [.ref 44] σ Q := by
  obtain ⟨g1, g2, g3, g4⟩ := id hS
  obtain ⟨s1, s2, s3, s5⟩ := id hs
  unfold mc at hQ
  refine ok_enter rfl (Nat.le_of_ble_eq_true rfl) ?_
  refine v_aload_n dX12_stateNow_0 rfl ?_
  refine v_getI dX12_stateNow_1 fl_RX12_197 rfl ?_
  rw [g1]
  refine v_iconst dX12_stateNow_4 ?_
  refine v_imul dX12_stateNow_5 ?_
  refine v_aload_n dX12_stateNow_6 rfl ?_
  refine v_getI dX12_stateNow_7 fl_RX12_200 rfl ?_
  rw [g2]
  refine v_iadd dX12_stateNow_10 ?_
  refine v_aload_n dX12_stateNow_11 rfl ?_
  refine v_getI dX12_stateNow_12 fl_RX12_65 rfl ?_
  rw [h3]
  refine v_imul dX12_stateNow_15 ?_
  refine v_aload_n dX12_stateNow_16 rfl ?_
  refine v_getI dX12_stateNow_17 fl_RX12_203 rfl ?_
  rw [g3]
  refine v_iadd dX12_stateNow_20 ?_
  refine v_iconst dX12_stateNow_21 ?_
  refine v_imul dX12_stateNow_22 ?_
  refine v_aload_n dX12_stateNow_23 rfl ?_
  refine v_getI dX12_stateNow_24 fl_RX12_206 rfl ?_
  rw [g4]
  refine v_if_eq dX12_stateNow_27 (fun zc27 => ?_) (fun zc27 => ?_)
  · rw [show (0 : Int32) = nI 0 from rfl, nI_eq (by omega) (by omega)] at zc27
    refine v_iconst dX12_stateNow_34 ?_
    refine v_iadd dX12_stateNow_35 ?_
    refine v_ireturn dX12_stateNow_36 rfl (rfl) ?_
    rw [show (4 : Int32) = nI 4 from rfl, show (2 : Int32) = nI 2 from rfl]
    try rw [show (0 : Int32) = nI 0 from rfl]
    try rw [show (1 : Int32) = nI 1 from rfl]
    simp only [pk_mul, nI_add]
    first | (rw [show s.2.2.2 = 0 by omega] at hQ; exact hQ) | (rw [show s.2.2.2 = 1 by omega] at hQ; exact hQ)
  · rw [show (0 : Int32) = nI 0 from rfl, nI_eq (by omega) (by omega)] at zc27
    refine v_iconst dX12_stateNow_30 ?_
    refine v_goto dX12_stateNow_31 ?_
    refine v_iadd dX12_stateNow_35 ?_
    refine v_ireturn dX12_stateNow_36 rfl (rfl) ?_
    rw [show (4 : Int32) = nI 4 from rfl, show (2 : Int32) = nI 2 from rfl]
    try rw [show (0 : Int32) = nI 0 from rfl]
    try rw [show (1 : Int32) = nI 1 from rfl]
    simp only [pk_mul, nI_add]
    first | (rw [show s.2.2.2 = 0 by omega] at hQ; exact hQ) | (rw [show s.2.2.2 = 1 by omega] at hQ; exact hQ)
theorem ok_setState {m c : Nat} (h3 : σ.1 44 3 = nI m) (hm : 0 < m) (hm2 : m ≤ 100) (hc : c < 80000) (hQ : Q none (putS σ (mdec m c))) : Ok D mX12_setState [.ref 44, .int (nI c)] σ Q := by
  have hd1 : c / 2 / m ≤ c / 2 := Nat.div_le_self _ _
  have hd2 : c / 8 / m ≤ c / 8 := Nat.div_le_self _ _
  have hnz : ¬ nI m = (0 : Int32) := nI_ne0 hm (by omega)
  have hx : ∀ (τ : Wd) (i : Nat) (x : Int32), 21 ≤ i → (setI τ 44 i x).1 44 3 = τ.1 44 3 := fun τ i x h => setI_ne (by omega)
  have hdv : nI c / (2 : Int32) = nI (c / 2) := by rw [show (2 : Int32) = nI 2 from rfl, pk_div (by omega) (by omega) (by omega)]
  have hdv8 : nI c / (8 : Int32) = nI (c / 8) := by rw [show (8 : Int32) = nI 8 from rfl, pk_div (by omega) (by omega) (by omega)]
  have fin : ∀ τ : Wd, τ = setI (setI (setI (setI σ 44 24 (nI (c % 2))) 44 23 (nI (c / 2 % m))) 44 22 (nI (c / 2 / m % 4))) 44 21 (nI (c / 8 / m)) → Q none τ := by
    intro τ hτ
    subst hτ
    exact putS_q hQ (by simp [setI_get]; rfl) (by simp [setI_get]; rfl) (by simp [setI_get]; rfl) (by simp [setI_get]; rfl) (fun a b h => by rw [setI_ne (by omega), setI_ne (by omega), setI_ne (by omega), setI_ne (by omega)]) rfl
  have tail : ∀ w : Int32, w = nI (c % 2) → V mX12_setState D 13 [some (.ref 44), some (.int (nI c))] [.int w, .ref 44] σ Q := by
    intro w hw
    subst hw
    refine v_putZ dX12_setState_13 fp_RX12_206 rfl (by rcases (show c % 2 = 0 ∨ c % 2 = 1 by omega) with h | h <;> rw [h] <;> first | exact Or.inl rfl | exact Or.inr rfl) ?_
    refine v_aload_n dX12_setState_16 rfl ?_
    refine v_aload_n dX12_setState_17 rfl ?_
    refine v_getI dX12_setState_18 fl_RX12_65 rfl ?_
    rw [hx _ _ _ (by omega), h3]
    refine v_if_ne dX12_setState_21 (fun zc21 => ?_) (fun zc21 => ?_)
    · refine v_iload_n dX12_setState_28 rfl ?_
      refine v_iconst dX12_setState_29 ?_
      refine v_idiv dX12_setState_30 (by decide) ?_
      rw [hdv]
      refine v_aload_n dX12_setState_31 rfl ?_
      refine v_getI dX12_setState_32 fl_RX12_65 rfl ?_
      rw [hx _ _ _ (by omega), h3]
      refine v_irem dX12_setState_35 (by exact hnz) ?_
      rw [pk_rem (by omega) hm (by omega)]
      refine v_putI dX12_setState_36 fp_RX12_203 rfl ?_
      refine v_aload_n dX12_setState_39 rfl ?_
      refine v_aload_n dX12_setState_40 rfl ?_
      refine v_getI dX12_setState_41 fl_RX12_65 rfl ?_
      rw [hx _ _ _ (by omega), hx _ _ _ (by omega), h3]
      refine v_if_ne dX12_setState_44 (fun zc44 => ?_) (fun zc44 => ?_)
      · refine v_iload_n dX12_setState_51 rfl ?_
        refine v_iconst dX12_setState_52 ?_
        refine v_idiv dX12_setState_53 (by decide) ?_
        rw [hdv]
        refine v_aload_n dX12_setState_54 rfl ?_
        refine v_getI dX12_setState_55 fl_RX12_65 rfl ?_
        rw [hx _ _ _ (by omega), hx _ _ _ (by omega), h3]
        refine v_idiv dX12_setState_58 (by exact hnz) ?_
        rw [pk_div (by omega) hm (by omega)]
        refine v_iconst dX12_setState_59 ?_
        refine v_irem dX12_setState_60 (by decide) ?_
        rw [show (4 : Int32) = nI 4 from rfl, pk_rem (by omega) (by omega) (by omega)]
        refine v_putI dX12_setState_61 fp_RX12_200 rfl ?_
        refine v_aload_n dX12_setState_64 rfl ?_
        refine v_aload_n dX12_setState_65 rfl ?_
        refine v_getI dX12_setState_66 fl_RX12_65 rfl ?_
        rw [hx _ _ _ (by omega), hx _ _ _ (by omega), hx _ _ _ (by omega), h3]
        refine v_if_ne dX12_setState_69 (fun zc69 => ?_) (fun zc69 => ?_)
        · refine v_iload_n dX12_setState_76 rfl ?_
          refine v_bipush dX12_setState_77 ?_
          refine v_idiv dX12_setState_79 (by decide) ?_
          rw [hdv8]
          refine v_aload_n dX12_setState_80 rfl ?_
          refine v_getI dX12_setState_81 fl_RX12_65 rfl ?_
          rw [hx _ _ _ (by omega), hx _ _ _ (by omega), hx _ _ _ (by omega), h3]
          refine v_idiv dX12_setState_84 (by exact hnz) ?_
          rw [pk_div (by omega) hm (by omega)]
          refine v_putI dX12_setState_85 fp_RX12_197 rfl ?_
          refine v_return dX12_setState_88 rfl ?_
          exact fin _ rfl
        · exact absurd zc69 hnz
      · exact absurd zc44 hnz
    · exact absurd zc21 hnz
  refine ok_enter rfl (Nat.le_of_ble_eq_true rfl) ?_
  refine v_aload_n dX12_setState_0 rfl ?_
  refine v_iload_n dX12_setState_1 rfl ?_
  refine v_iconst dX12_setState_2 ?_
  refine v_irem dX12_setState_3 (by decide) ?_
  rw [show (2 : Int32) = nI 2 from rfl, pk_rem (by omega) (by omega) (by omega)]
  refine v_iconst dX12_setState_4 ?_
  refine v_icmp_ne dX12_setState_5 (fun zc5 => ?_) (fun zc5 => ?_)
  · rw [show (1 : Int32) = nI 1 from rfl, nI_eq (by omega) (by omega)] at zc5
    refine v_iconst dX12_setState_12 ?_
    refine tail _ ?_
    first | (rw [show c % 2 = 0 by omega]; rfl) | (rw [show c % 2 = 1 by omega]; rfl)
  · rw [show (1 : Int32) = nI 1 from rfl, nI_eq (by omega) (by omega)] at zc5
    refine v_iconst dX12_setState_8 ?_
    refine v_goto dX12_setState_9 ?_
    refine tail _ ?_
    first | (rw [show c % 2 = 0 by omega]; rfl) | (rw [show c % 2 = 1 by omega]; rfl)
theorem ok_setState0 (h3 : σ.1 44 3 = nI 0) (hQ : Q none (putS σ (0, 0, 0, 0))) : Ok D mX12_setState [.ref 44, .int (nI 0)] σ Q := by
  have hx : ∀ (τ : Wd) (i : Nat) (x : Int32), 21 ≤ i → (setI τ 44 i x).1 44 3 = τ.1 44 3 := fun τ i x h => setI_ne (by omega)
  have hz : nI 0 = (0 : Int32) := rfl
  refine ok_enter rfl (Nat.le_of_ble_eq_true rfl) ?_
  refine v_aload_n dX12_setState_0 rfl ?_
  refine v_iload_n dX12_setState_1 rfl ?_
  refine v_iconst dX12_setState_2 ?_
  refine v_irem dX12_setState_3 (by decide) ?_
  refine v_iconst dX12_setState_4 ?_
  refine v_icmp_ne dX12_setState_5 (fun zc5 => ?_) (fun zc5 => ?_)
  · refine v_iconst dX12_setState_12 ?_
    refine v_putZ dX12_setState_13 fp_RX12_206 rfl (by first | exact Or.inl rfl | exact Or.inr rfl) ?_
    refine v_aload_n dX12_setState_16 rfl ?_
    refine v_aload_n dX12_setState_17 rfl ?_
    refine v_getI dX12_setState_18 fl_RX12_65 rfl ?_
    rw [hx _ _ _ (by omega), h3]
    refine v_if_ne dX12_setState_21 (fun zc21 => ?_) (fun zc21 => ?_)
    · exact absurd hz zc21
    · refine v_iconst dX12_setState_24 ?_
      refine v_goto dX12_setState_25 ?_
      refine v_putI dX12_setState_36 fp_RX12_203 rfl ?_
      refine v_aload_n dX12_setState_39 rfl ?_
      refine v_aload_n dX12_setState_40 rfl ?_
      refine v_getI dX12_setState_41 fl_RX12_65 rfl ?_
      rw [hx _ _ _ (by omega), hx _ _ _ (by omega), h3]
      refine v_if_ne dX12_setState_44 (fun zc44 => ?_) (fun zc44 => ?_)
      · exact absurd hz zc44
      · refine v_iconst dX12_setState_47 ?_
        refine v_goto dX12_setState_48 ?_
        refine v_putI dX12_setState_61 fp_RX12_200 rfl ?_
        refine v_aload_n dX12_setState_64 rfl ?_
        refine v_aload_n dX12_setState_65 rfl ?_
        refine v_getI dX12_setState_66 fl_RX12_65 rfl ?_
        rw [hx _ _ _ (by omega), hx _ _ _ (by omega), hx _ _ _ (by omega), h3]
        refine v_if_ne dX12_setState_69 (fun zc69 => ?_) (fun zc69 => ?_)
        · exact absurd hz zc69
        · refine v_iconst dX12_setState_72 ?_
          refine v_goto dX12_setState_73 ?_
          refine v_putI dX12_setState_85 fp_RX12_197 rfl ?_
          refine v_return dX12_setState_88 rfl ?_
          exact putS_q hQ (by simp [setI_get]; rfl) (by simp [setI_get]; rfl) (by simp [setI_get]; rfl) (by simp [setI_get]; rfl) (fun a b h => by rw [setI_ne (by omega), setI_ne (by omega), setI_ne (by omega), setI_ne (by omega)]) rfl
  · exact absurd zc5 (by decide)
theorem ok_mshownIn {m c : Nat} (h3 : σ.1 44 3 = nI m) (hm : 0 < m) (hm2 : m ≤ 100) (hc : c < 80000) (hQ : Q (some (.int (nI (mdec m c).1))) σ) : Ok D mX12_shownIn [.ref 44, .int (nI c)] σ Q := by
  refine ok_enter rfl (Nat.le_of_ble_eq_true rfl) ?_
  refine v_iload_n dX12_shownIn_0 rfl ?_
  refine v_bipush dX12_shownIn_1 ?_
  refine v_idiv dX12_shownIn_3 (by decide) ?_
  refine v_aload_n dX12_shownIn_4 rfl ?_
  refine v_getI dX12_shownIn_5 fl_RX12_65 rfl ?_
  rw [h3]
  refine v_idiv dX12_shownIn_8 (by exact nI_ne0 hm (by omega)) ?_
  refine v_ireturn dX12_shownIn_9 rfl (rfl) ?_
  rw [show (8 : Int32) = nI 8 from rfl, pk_div (by omega) (by omega) (by omega), pk_div (by omega) hm (by omega)]
  exact hQ
theorem ok_states {m : Nat} (h3 : σ.1 44 3 = nI m) (hQ : Q (some (.int (nI (8 * m * m)))) σ) : Ok D mX12_states [.ref 44] σ Q := by
  refine ok_enter rfl (Nat.le_of_ble_eq_true rfl) ?_
  refine v_bipush dX12_states_0 ?_
  refine v_aload_n dX12_states_2 rfl ?_
  refine v_getI dX12_states_3 fl_RX12_65 rfl ?_
  rw [h3]
  refine v_imul dX12_states_6 ?_
  refine v_aload_n dX12_states_7 rfl ?_
  refine v_getI dX12_states_8 fl_RX12_65 rfl ?_
  rw [h3]
  refine v_imul dX12_states_11 ?_
  refine v_ireturn dX12_states_12 rfl (rfl) ?_
  rw [show (8 : Int32) = nI 8 from rfl, pk_mul, pk_mul]
  exact hQ
theorem mm_le {m : Nat} (h : m ≤ 100) : 8 * m * m ≤ 80000 := by
  have : 8 * m * m ≤ 8 * 100 * 100 := Nat.mul_le_mul (by omega) h
  omega
theorem ok_behind {c i n : Nat} {k : Ky} (hM : RepM σ R) (hn : n ≤ 9) (hv : vR n R) (hi : R.2.2.2.2[i]? = some k) (hc : c < 8 * R.2.2.2.1 * R.2.2.2.1) (hQ : Q (some (.int (nI (mc R.2.2.2.1 (rk_str R (mdec R.2.2.2.1 c) k))))) (putS σ (rk_str R (mdec R.2.2.2.1 c) k))) : Ok (D + 3) mX12_behind [.ref 44, .int (nI c), .int (nI i)] σ Q := by
  have hmem : k ∈ R.2.2.2.2 := List.mem_of_getElem? hi
  have hmm : 0 < R.2.2.2.1 ∧ R.2.2.2.1 ≤ 100 := by
    rcases hv with e | ⟨v1, v2, v3, v4, v5, v6, v7, v8, v9⟩
    · subst e; exact absurd hmem List.not_mem_nil
    · omega
  have h8 := mm_le hmm.2
  have hw := mdec_w hmm.1 hc
  have hw2 := rk_str_w hv hmem hw
  refine ok_enter rfl (Nat.le_of_ble_eq_true rfl) ?_
  refine v_aload_n dX12_behind_0 rfl ?_
  refine v_iload_n dX12_behind_1 rfl ?_
  refine v_callV1 dX12_behind_2 mv_RX12_223 rfl rfl (Nat.le_of_ble_eq_true rfl) ?_
  refine ok_setState hM.2.2.2.1 hmm.1 hmm.2 (by omega) ?_
  show V _ _ _ _ _ _ _
  refine v_aload_n dX12_behind_5 rfl ?_
  refine v_iload_n dX12_behind_6 rfl ?_
  refine v_callV1 dX12_behind_7 mv_RX12_226 rfl rfl (Nat.le_of_ble_eq_true rfl) ?_
  refine ok_doStroke hM.putS hn hv putS_rep hw hi ?_
  rw [putS_putS]
  show V _ _ _ _ _ _ _
  refine v_aload_n dX12_behind_10 rfl ?_
  refine v_callV0 dX12_behind_11 mv_RX12_229 rfl rfl (Nat.le_of_ble_eq_true rfl) ?_
  refine ok_stateNow hM.putS.2.2.2.1 putS_rep hw2 hmm.2 ?_
  show V _ _ _ _ (_ :: _) _ _
  refine v_ireturn dX12_behind_14 rfl (rfl) ?_
  exact hQ
end M2
