/-! ===== quick of the class; the reference: fewest, way, never, farthest, quick ===== -/
section QK
variable {D : Nat} {σ τ : Wd} {Q : Option Value → Wd → Prop} {R : Rk} {s : St} {r n : Nat}
theorem iab_rng {v : Nat} {p : Int} (hv : v < 100) (hp : 0 ≤ p) (hp2 : p ≤ 999) : 0 ≤ iab (v - p) ∧ iab (v - p) ≤ 1099 := by
  unfold iab
  split <;> omega
theorem ok_isQuicker {v : Nat} {b p : Int} {fw : Nat → Int} {m : Nat} (hm : m ≤ 100) (hv : v < m) (hb : b = -1 ∨ (0 ≤ b ∧ b < m)) (hp : 0 ≤ p) (hp2 : p ≤ 999) (hf : ∀ u, u < m → σ.1 27 u = iz (fw u)) (hr : ∀ u, u < m → -1 ≤ fw u ∧ fw u < 60201) (hQ : Q (some (.int (if b = -1 ∨ fw v < fw b.toNat ∨ (fw v = fw b.toNat ∧ iab (v - p) < iab (b - p)) then 1 else 0))) σ) : Ok (D + 2) mX11_isQuicker [.ref 0, .int (nI v), .int (iz b), .int (iz p)] σ Q := by
  obtain ⟨r1, r2⟩ := hr v hv
  have hfv := hf v hv
  have hvn : nI v = iz v := iz_nI v
  rcases hb with hb | ⟨hb1, hb2⟩
  · subst hb
    rw [if_pos (Or.inl rfl)] at hQ
    refine ok_enter rfl (Nat.le_of_ble_eq_true rfl) ?_
    refine v_iload_n dX11_isQuicker_0 rfl ?_
    refine v_iconst dX11_isQuicker_1 ?_
    refine v_icmp_eq dX11_isQuicker_2 (fun zc2 => ?_) (fun zc2 => ?_)
    · refine v_iload_n dX11_isQuicker_24 rfl ?_
      refine v_iconst dX11_isQuicker_25 ?_
      refine v_icmp_eq dX11_isQuicker_26 (fun zc26 => ?_) (fun zc26 => ?_)
      · refine v_iconst dX11_isQuicker_48 ?_
        refine v_goto dX11_isQuicker_49 ?_
        refine v_ireturn dX11_isQuicker_53 rfl (rfl) ?_
        exact hQ
      · exact absurd rfl zc26
    · exact absurd rfl zc2
  · obtain ⟨r3, r4⟩ := hr b.toNat (by omega)
    have hfb := hf b.toNat (by omega)
    have hbn : iz b = nI b.toNat := iz_toN hb1
    have e1 : vAt σ 27 100 (nI v) = iz (fw v) := by rw [vAt_nI (by omega) (by omega), hfv]
    have e2 : vAt σ 27 100 (iz b) = iz (fw b.toNat) := by rw [hbn, vAt_nI (by omega) (by omega), hfb]
    refine ok_enter rfl (Nat.le_of_ble_eq_true rfl) ?_
    refine v_iload_n dX11_isQuicker_0 rfl ?_
    refine v_iconst dX11_isQuicker_1 ?_
    refine v_icmp_eq dX11_isQuicker_2 (fun zc2 => ?_) (fun zc2 => ?_)
    · rw [show (-1 : Int32) = iz (-1) from rfl, iz_eq (by omega) (by omega) (by omega) (by omega)] at zc2; exfalso; omega
    · refine v_aload_n dX11_isQuicker_5 rfl ?_
      refine v_getR (q := 26) dX11_isQuicker_6 fl_RX11_58 rfl rfl ?_
      refine v_iload_n dX11_isQuicker_9 rfl ?_
      refine v_callV1 dX11_isQuicker_10 mv_RX11_194 rfl rfl (Nat.le_of_ble_eq_true rfl) ?_
      refine ok_to ?_
      rw [e1]
      show V _ _ _ _ (_ :: _) _ _
      refine v_aload_n dX11_isQuicker_13 rfl ?_
      refine v_getR (q := 26) dX11_isQuicker_14 fl_RX11_58 rfl rfl ?_
      refine v_iload_n dX11_isQuicker_17 rfl ?_
      refine v_callV1 dX11_isQuicker_18 mv_RX11_194 rfl rfl (Nat.le_of_ble_eq_true rfl) ?_
      refine ok_to ?_
      rw [e2]
      show V _ _ _ _ (_ :: _) _ _
      refine v_icmp_eq dX11_isQuicker_21 (fun zc21 => ?_) (fun zc21 => ?_)
      · rw [iz_eq (by omega) (by omega) (by omega) (by omega)] at zc21
        refine v_iload_n dX11_isQuicker_54 rfl ?_
        refine v_iload_n dX11_isQuicker_55 rfl ?_
        refine v_isub dX11_isQuicker_56 ?_
        rw [iz_nI, iz_sub]
        refine v_callS1 dX11_isQuicker_57 ms_RX11_236 (Nat.le_of_ble_eq_true rfl) ?_
        refine ok_abs (by omega) (by omega) ?_
        show V _ _ _ _ (_ :: _) _ _
        refine v_iload_n dX11_isQuicker_60 rfl ?_
        refine v_iload_n dX11_isQuicker_61 rfl ?_
        refine v_isub dX11_isQuicker_62 ?_
        rw [iz_sub]
        refine v_callS1 dX11_isQuicker_63 ms_RX11_236 (Nat.le_of_ble_eq_true rfl) ?_
        refine ok_abs (by omega) (by omega) ?_
        show V _ _ _ _ (_ :: _) _ _
        refine v_icmp_ge dX11_isQuicker_66 (fun zc66 => ?_) (fun zc66 => ?_)
        · rw [show (if (v : Int) - p < 0 then -((v : Int) - p) else (v : Int) - p) = iab (v - p) from rfl, show (if b - p < 0 then -(b - p) else b - p) = iab (b - p) from rfl, iz_le (by unfold iab; split <;> omega) (by unfold iab; split <;> omega) (by unfold iab; split <;> omega) (by unfold iab; split <;> omega)] at zc66
          refine v_iconst dX11_isQuicker_73 ?_
          refine v_ireturn dX11_isQuicker_74 rfl (rfl) ?_
          first | (rw [if_pos (Or.inr (Or.inr ⟨zc21, by omega⟩))] at hQ; exact hQ) | (rw [if_neg (by omega)] at hQ; exact hQ)
        · rw [show (if (v : Int) - p < 0 then -((v : Int) - p) else (v : Int) - p) = iab (v - p) from rfl, show (if b - p < 0 then -(b - p) else b - p) = iab (b - p) from rfl, iz_le (by unfold iab; split <;> omega) (by unfold iab; split <;> omega) (by unfold iab; split <;> omega) (by unfold iab; split <;> omega)] at zc66
          refine v_iconst dX11_isQuicker_69 ?_
          refine v_goto dX11_isQuicker_70 ?_
          refine v_ireturn dX11_isQuicker_74 rfl (rfl) ?_
          first | (rw [if_pos (Or.inr (Or.inr ⟨zc21, by omega⟩))] at hQ; exact hQ) | (rw [if_neg (by omega)] at hQ; exact hQ)
      · rw [iz_eq (by omega) (by omega) (by omega) (by omega)] at zc21
        refine v_iload_n dX11_isQuicker_24 rfl ?_
        refine v_iconst dX11_isQuicker_25 ?_
        refine v_icmp_eq dX11_isQuicker_26 (fun zc26 => ?_) (fun zc26 => ?_)
        · rw [show (-1 : Int32) = iz (-1) from rfl, iz_eq (by omega) (by omega) (by omega) (by omega)] at zc26; exfalso; omega
        · refine v_aload_n dX11_isQuicker_29 rfl ?_
          refine v_getR (q := 26) dX11_isQuicker_30 fl_RX11_58 rfl rfl ?_
          refine v_iload_n dX11_isQuicker_33 rfl ?_
          refine v_callV1 dX11_isQuicker_34 mv_RX11_194 rfl rfl (Nat.le_of_ble_eq_true rfl) ?_
          refine ok_to ?_
          rw [e1]
          show V _ _ _ _ (_ :: _) _ _
          refine v_aload_n dX11_isQuicker_37 rfl ?_
          refine v_getR (q := 26) dX11_isQuicker_38 fl_RX11_58 rfl rfl ?_
          refine v_iload_n dX11_isQuicker_41 rfl ?_
          refine v_callV1 dX11_isQuicker_42 mv_RX11_194 rfl rfl (Nat.le_of_ble_eq_true rfl) ?_
          refine ok_to ?_
          rw [e2]
          show V _ _ _ _ (_ :: _) _ _
          refine v_icmp_ge dX11_isQuicker_45 (fun zc45 => ?_) (fun zc45 => ?_)
          · rw [iz_le (by omega) (by omega) (by omega) (by omega)] at zc45
            refine v_iconst dX11_isQuicker_52 ?_
            refine v_ireturn dX11_isQuicker_53 rfl (rfl) ?_
            first | (rw [if_pos (Or.inr (Or.inl (by omega)))] at hQ; exact hQ) | (rw [if_neg (by omega)] at hQ; exact hQ)
          · rw [iz_le (by omega) (by omega) (by omega) (by omega)] at zc45
            refine v_iconst dX11_isQuicker_48 ?_
            refine v_goto dX11_isQuicker_49 ?_
            refine v_ireturn dX11_isQuicker_53 rfl (rfl) ?_
            first | (rw [if_pos (Or.inr (Or.inl (by omega)))] at hQ; exact hQ) | (rw [if_neg (by omega)] at hQ; exact hQ)
theorem ok_cquick {x y : Int32} (hP : CP σ r R s) (hC : StC σ R s) (hQ : ∀ τ, StFr σ τ → StC τ R s → Q (some (.int (if x.toInt < 0 ∨ 999 < x.toInt ∨ y.toInt < 0 ∨ 999 < y.toInt then OUT else iz (qkG (fewS R s) x.toInt y.toInt R.2.2.2.1 0 (-1))))) τ) : Ok (D + 6) mX11_quick [.ref 0, .int x, .int y] σ Q := by
  obtain ⟨hr, hrk, hR, hv, hp0, hs⟩ := id hP
  have hm := hv.m100
  obtain ⟨x1, x2⟩ := iz_rng x
  have hxe := iz_of x
  generalize hxi : x.toInt = xi at *
  subst hxe
  obtain ⟨y1, y2⟩ := iz_rng y
  have hye := iz_of y
  generalize hyi : y.toInt = yi at *
  subst hye
  have loop : ¬ (xi < 0 ∨ 999 < xi ∨ yi < 0 ∨ 999 < yi) → ∀ τ, StFr σ τ → StC τ R s → (0 < R.2.2.2.1 → ∀ v, v < R.2.2.2.1 → τ.1 27 v = iz (fewS R s v)) → ∀ j v (b : Int), v + j = R.2.2.2.1 → (b = -1 ∨ (0 ≤ b ∧ b < R.2.2.2.1)) → qkG (fewS R s) xi yi R.2.2.2.1 0 (-1) = qkG (fewS R s) xi yi j v b → V mX11_quick (D + 6) 48 [some (.ref 0), some (.int (iz xi)), some (.int (iz yi)), some (.int (iz b)), some (.int (nI v))] [] τ Q := by
    intro hxx τ f1 f2 f3 j
    obtain ⟨-, hrk2, hR2, -⟩ := hP.st f1
    have h32 := hR2.2.2.2.1
    have hq := hQ τ f1 f2
    rw [if_neg hxx] at hq
    induction j with
    | zero =>
      intro v b hvc hb he
      have he2 : qkG (fewS R s) xi yi R.2.2.2.1 0 (-1) = b := he
      rw [he2] at hq
      refine v_iload dX11_quick_48 rfl ?_
      refine v_aload_n dX11_quick_50 rfl ?_
      refine v_getM dX11_quick_51 fl_RX11_19 rfl ?_
      rw [hrk2]
      refine v_getI dX11_quick_54 fl_RX11_131 hr.lay ?_
      rw [h32]
      refine v_icmp_ge dX11_quick_57 (fun zc57 => ?_) (fun zc57 => ?_)
      · refine v_iload_n dX11_quick_104 rfl ?_
        refine v_ireturn dX11_quick_105 rfl (rfl) ?_
        exact hq
      · exact absurd (nI_le (by omega) (by omega)) zc57
    | succ j ih =>
      intro v b hvc hb he
      obtain ⟨r1, r2⟩ := few_rng (v := v) hv (by omega) hm hs
      obtain ⟨q1, q2⟩ := iab_rng (v := v) (p := xi) (by omega) (by omega) (by omega)
      have he2 : qkG (fewS R s) xi yi R.2.2.2.1 0 (-1) = qkG (fewS R s) xi yi j (v + 1) (if iab (v - xi) ≤ yi ∧ fewS R s v ≠ -1 ∧ (b = -1 ∨ fewS R s v < fewS R s b.toNat ∨ (fewS R s v = fewS R s b.toNat ∧ iab (v - xi) < iab (b - xi))) then v else b) := he
      refine v_iload dX11_quick_48 rfl ?_
      refine v_aload_n dX11_quick_50 rfl ?_
      refine v_getM dX11_quick_51 fl_RX11_19 rfl ?_
      rw [hrk2]
      refine v_getI dX11_quick_54 fl_RX11_131 hr.lay ?_
      rw [h32]
      refine v_icmp_ge dX11_quick_57 (fun zc57 => ?_) (fun zc57 => ?_)
      · exact absurd zc57 (nI_ge (by omega) (by omega))
      · refine v_iload dX11_quick_60 rfl ?_
        refine v_iload_n dX11_quick_62 rfl ?_
        refine v_isub dX11_quick_63 ?_
        rw [show nI v - iz xi = iz (v - xi) by rw [iz_nI, iz_sub]]
        refine v_callS1 dX11_quick_64 ms_RX11_236 (Nat.le_of_ble_eq_true rfl) ?_
        refine ok_abs (by omega) (by omega) ?_
        rw [show (if (v : Int) - xi < 0 then -((v : Int) - xi) else (v : Int) - xi) = iab (v - xi) from rfl]
        show V _ _ _ _ (_ :: _) _ _
        refine v_iload_n dX11_quick_67 rfl ?_
        refine v_icmp_gt dX11_quick_68 (fun zc68 => ?_) (fun zc68 => ?_)
        · rw [iz_lt (by omega) (by omega) (by omega) (by omega)] at zc68
          refine v_iinc dX11_quick_98 rfl (Nat.le_of_ble_eq_true rfl) rfl ?_
          refine v_goto dX11_quick_101 ?_
          first | (rw [nI_1]; refine ih (v + 1) b (by omega) hb ?_; rw [he2, if_neg (fun h => by omega)]; done) | (rw [nI_1]; refine ih (v + 1) b (by omega) hb ?_; rw [he2, if_neg (fun h => by rw [if_pos h.2.2] at zc92; exact absurd zc92 (by decide))]; done) | (rw [nI_1, iz_nI v]; refine ih (v + 1) v (by omega) (Or.inr ⟨by omega, by omega⟩) ?_; rw [he2, if_pos ⟨by omega, zc81, by by_cases h : (b = -1 ∨ fewS R s v < fewS R s b.toNat ∨ (fewS R s v = fewS R s b.toNat ∧ iab (v - xi) < iab (b - xi))); exact h; (rw [if_neg h] at zc92; exact absurd rfl zc92)⟩]; done)
        · rw [iz_lt (by omega) (by omega) (by omega) (by omega)] at zc68
          refine v_aload_n dX11_quick_71 rfl ?_
          refine v_getR (q := 26) dX11_quick_72 fl_RX11_58 rfl rfl ?_
          refine v_iload dX11_quick_75 rfl ?_
          refine v_callV1 dX11_quick_77 mv_RX11_194 rfl rfl (Nat.le_of_ble_eq_true rfl) ?_
          refine ok_to ?_
          rw [vAt_nI (by omega) (by omega), f3 (by omega) v (by omega)]
          show V _ _ _ _ (_ :: _) _ _
          refine v_iconst dX11_quick_80 ?_
          refine v_icmp_eq dX11_quick_81 (fun zc81 => ?_) (fun zc81 => ?_)
          · rw [show (-1 : Int32) = iz (-1) from rfl, iz_eq (by omega) (by omega) (by omega) (by omega)] at zc81
            refine v_iinc dX11_quick_98 rfl (Nat.le_of_ble_eq_true rfl) rfl ?_
            refine v_goto dX11_quick_101 ?_
            first | (rw [nI_1]; refine ih (v + 1) b (by omega) hb ?_; rw [he2, if_neg (fun h => by omega)]; done) | (rw [nI_1]; refine ih (v + 1) b (by omega) hb ?_; rw [he2, if_neg (fun h => by rw [if_pos h.2.2] at zc92; exact absurd zc92 (by decide))]; done) | (rw [nI_1, iz_nI v]; refine ih (v + 1) v (by omega) (Or.inr ⟨by omega, by omega⟩) ?_; rw [he2, if_pos ⟨by omega, zc81, by by_cases h : (b = -1 ∨ fewS R s v < fewS R s b.toNat ∨ (fewS R s v = fewS R s b.toNat ∧ iab (v - xi) < iab (b - xi))); exact h; (rw [if_neg h] at zc92; exact absurd rfl zc92)⟩]; done)
          · rw [show (-1 : Int32) = iz (-1) from rfl, iz_eq (by omega) (by omega) (by omega) (by omega)] at zc81
            refine v_aload_n dX11_quick_84 rfl ?_
            refine v_iload dX11_quick_85 rfl ?_
            refine v_iload_n dX11_quick_87 rfl ?_
            refine v_iload_n dX11_quick_88 rfl ?_
            refine v_callV3 dX11_quick_89 mv_RX11_241 rfl rfl (Nat.le_of_ble_eq_true rfl) ?_
            refine ok_isQuicker hm (by omega) hb (by omega) (by omega) (f3 (by omega)) (fun u hu => few_rng hv (by omega) hm hs) ?_
            show V _ _ _ _ (_ :: _) _ _
            refine v_if_eq dX11_quick_92 (fun zc92 => ?_) (fun zc92 => ?_)
            · refine v_iinc dX11_quick_98 rfl (Nat.le_of_ble_eq_true rfl) rfl ?_
              refine v_goto dX11_quick_101 ?_
              first | (rw [nI_1]; refine ih (v + 1) b (by omega) hb ?_; rw [he2, if_neg (fun h => by omega)]; done) | (rw [nI_1]; refine ih (v + 1) b (by omega) hb ?_; rw [he2, if_neg (fun h => by rw [if_pos h.2.2] at zc92; exact absurd zc92 (by decide))]; done) | (rw [nI_1, iz_nI v]; refine ih (v + 1) v (by omega) (Or.inr ⟨by omega, by omega⟩) ?_; rw [he2, if_pos ⟨by omega, zc81, by by_cases h : (b = -1 ∨ fewS R s v < fewS R s b.toNat ∨ (fewS R s v = fewS R s b.toNat ∧ iab (v - xi) < iab (b - xi))); exact h; (rw [if_neg h] at zc92; exact absurd rfl zc92)⟩]; done)
            · refine v_iload dX11_quick_95 rfl ?_
              refine v_istore_n dX11_quick_97 (Nat.le_of_ble_eq_true rfl) rfl ?_
              refine v_iinc dX11_quick_98 rfl (Nat.le_of_ble_eq_true rfl) rfl ?_
              refine v_goto dX11_quick_101 ?_
              first | (rw [nI_1]; refine ih (v + 1) b (by omega) hb ?_; rw [he2, if_neg (fun h => by omega)]; done) | (rw [nI_1]; refine ih (v + 1) b (by omega) hb ?_; rw [he2, if_neg (fun h => by rw [if_pos h.2.2] at zc92; exact absurd zc92 (by decide))]; done) | (rw [nI_1, iz_nI v]; refine ih (v + 1) v (by omega) (Or.inr ⟨by omega, by omega⟩) ?_; rw [he2, if_pos ⟨by omega, zc81, by by_cases h : (b = -1 ∨ fewS R s v < fewS R s b.toNat ∨ (fewS R s v = fewS R s b.toNat ∧ iab (v - xi) < iab (b - xi))); exact h; (rw [if_neg h] at zc92; exact absurd rfl zc92)⟩]; done)
  refine ok_enter rfl (Nat.le_of_ble_eq_true rfl) ?_
  refine v_iload_n dX11_quick_0 rfl ?_
  refine v_if_lt dX11_quick_1 (fun zc1 => ?_) (fun zc1 => ?_)
  · try simp (disch := omega) only [iz_lit, iz_nI, iz_neg, iz_add, iz_sub, iz_mul, iz_lt, iz_le, iz_eq] at zc1
    refine v_ldc dX11_quick_22 cn_RX11_97 ?_
    refine v_ireturn dX11_quick_24 rfl (rfl) ?_
    have hq := hQ σ StFr.rf hC
    rw [if_pos (by omega)] at hq
    exact hq
  · try simp (disch := omega) only [iz_lit, iz_nI, iz_neg, iz_add, iz_sub, iz_mul, iz_lt, iz_le, iz_eq] at zc1
    refine v_iload_n dX11_quick_4 rfl ?_
    refine v_sipush dX11_quick_5 ?_
    refine v_icmp_gt dX11_quick_8 (fun zc8 => ?_) (fun zc8 => ?_)
    · try simp (disch := omega) only [iz_lit, iz_nI, iz_neg, iz_add, iz_sub, iz_mul, iz_lt, iz_le, iz_eq] at zc8
      refine v_ldc dX11_quick_22 cn_RX11_97 ?_
      refine v_ireturn dX11_quick_24 rfl (rfl) ?_
      have hq := hQ σ StFr.rf hC
      rw [if_pos (by omega)] at hq
      exact hq
    · try simp (disch := omega) only [iz_lit, iz_nI, iz_neg, iz_add, iz_sub, iz_mul, iz_lt, iz_le, iz_eq] at zc8
      refine v_iload_n dX11_quick_11 rfl ?_
      refine v_if_lt dX11_quick_12 (fun zc12 => ?_) (fun zc12 => ?_)
      · try simp (disch := omega) only [iz_lit, iz_nI, iz_neg, iz_add, iz_sub, iz_mul, iz_lt, iz_le, iz_eq] at zc12
        refine v_ldc dX11_quick_22 cn_RX11_97 ?_
        refine v_ireturn dX11_quick_24 rfl (rfl) ?_
        have hq := hQ σ StFr.rf hC
        rw [if_pos (by omega)] at hq
        exact hq
      · try simp (disch := omega) only [iz_lit, iz_nI, iz_neg, iz_add, iz_sub, iz_mul, iz_lt, iz_le, iz_eq] at zc12
        refine v_iload_n dX11_quick_15 rfl ?_
        refine v_sipush dX11_quick_16 ?_
        refine v_icmp_le dX11_quick_19 (fun zc19 => ?_) (fun zc19 => ?_)
        · try simp (disch := omega) only [iz_lit, iz_nI, iz_neg, iz_add, iz_sub, iz_mul, iz_lt, iz_le, iz_eq] at zc19
          refine v_aload_n dX11_quick_25 rfl ?_
          refine v_getR (q := 26) dX11_quick_26 fl_RX11_58 rfl rfl ?_
          refine v_aload_n dX11_quick_29 rfl ?_
          refine v_getM dX11_quick_30 fl_RX11_19 rfl ?_
          rw [hrk]
          refine v_aload_n dX11_quick_33 rfl ?_
          refine v_getR (q := 13) dX11_quick_34 fl_RX11_29 rfl rfl ?_
          refine v_getI dX11_quick_37 fl_RX11_114 rfl ?_
          rw [hp0]
          refine v_callV2 dX11_quick_40 mv_RX11_191 rfl rfl (Nat.le_of_ble_eq_true rfl) ?_
          refine ok_learnA hP hC (fun τ f1 f2 f3 => ?_)
          show V _ _ _ _ _ _ _
          refine v_iconst dX11_quick_43 ?_
          refine v_istore_n dX11_quick_44 (Nat.le_of_ble_eq_true rfl) rfl ?_
          refine v_iconst dX11_quick_45 ?_
          refine v_istore dX11_quick_46 (Nat.le_of_ble_eq_true rfl) rfl ?_
          exact loop (by omega) τ f1 f2 f3 R.2.2.2.1 0 (-1) (by omega) (Or.inl rfl) rfl
        · try simp (disch := omega) only [iz_lit, iz_nI, iz_neg, iz_add, iz_sub, iz_mul, iz_lt, iz_le, iz_eq] at zc19
          refine v_ldc dX11_quick_22 cn_RX11_97 ?_
          refine v_ireturn dX11_quick_24 rfl (rfl) ?_
          have hq := hQ σ StFr.rf hC
          rw [if_pos (by omega)] at hq
          exact hq
end QK
/-- the reference's reckoner and state -/
def MP (σ : Wd) (R : Rk) (s : St) : Prop := RepM σ R ∧ σ.1 44 4 = nI R.2.2.2.2.length ∧ vR 8 R ∧ RepS σ s ∧ vS R.2.2.2.1 s
def ScFr (σ τ : Wd) : Prop := (∀ a b, ¬ (53 ≤ a ∧ a ≤ 59) → τ.1 a b = σ.1 a b) ∧ τ.2 = σ.2
section MF
variable {D : Nat} {σ τ : Wd} {Q : Option Value → Wd → Prop} {R : Rk} {s : St} {r n : Nat}
theorem ScFr.rf : ScFr σ σ := ⟨fun _ _ _ => rfl, rfl⟩
theorem ScFr.tr {a b c : Wd} (h1 : ScFr a b) (h2 : ScFr b c) : ScFr a c := ⟨fun x y h => by rw [h2.1 x y h, h1.1 x y h], by rw [h2.2, h1.2]⟩
theorem MP.sc (h : MP σ R s) (hF : ScFr σ τ) : MP τ R s := by
  obtain ⟨a1, a2, a3, a4, a5⟩ := h
  refine ⟨a1.kept (fun b _ => hF.1 _ _ (by omega)) (fun b => hF.1 _ _ (by omega)), by rw [hF.1 _ _ (by omega)]; exact a2, a3, ?_, a5⟩
  obtain ⟨g1, g2, g3, g4⟩ := a4
  exact ⟨by rw [hF.1 _ _ (by omega)]; exact g1, by rw [hF.1 _ _ (by omega)]; exact g2, by rw [hF.1 _ _ (by omega)]; exact g3, by rw [hF.1 _ _ (by omega)]; exact g4⟩
theorem ok_layFewest0 {x : Int32} (h3 : σ.1 44 3 = 0) (hQ : Q none (fillI σ 57 100 (-1))) : Ok (D + 4) mX12_layFewest [.ref 44, .int x] σ Q := by
  have fill1 : ∀ j v, v + j = 100 → ∀ x3 x4 x5 x6 x7 x8, V mX12_layFewest (D + 4) 2 [some (.ref 44), some (.int x), some (.int (nI v)), x3, x4, x5, x6, x7, x8] [] (fillI σ 57 v (-1)) Q := by
    intro j
    induction j with
    | zero =>
      intro v hv x3 x4 x5 x6 x7 x8
      have e : v = 100 := by omega
      subst e
      refine v_iload_n dX12_layFewest_2 rfl ?_
      refine v_bipush dX12_layFewest_3 ?_
      refine v_icmp_ge dX12_layFewest_5 (fun zc5 => ?_) (fun zc5 => ?_)
      · refine v_aload_n dX12_layFewest_21 rfl ?_
        refine v_getI dX12_layFewest_22 fl_RX12_65 rfl ?_
        rw [fillI_o (by omega), h3]
        refine v_if_ne dX12_layFewest_25 (fun zc25 => ?_) (fun zc25 => ?_)
        · exact absurd rfl zc25
        · refine v_return dX12_layFewest_28 rfl ?_
          exact hQ
      · exact absurd (show (100 : Int32) ≤ nI 100 by decide) zc5
    | succ j ih =>
      intro v hv x3 x4 x5 x6 x7 x8
      refine v_iload_n dX12_layFewest_2 rfl ?_
      refine v_bipush dX12_layFewest_3 ?_
      refine v_icmp_ge dX12_layFewest_5 (fun zc5 => ?_) (fun zc5 => ?_)
      · exact absurd zc5 (nI_ge (b := 100) (by omega) (by omega))
      · refine v_aload_n dX12_layFewest_8 rfl ?_
        refine v_getR (q := 57) dX12_layFewest_9 fl_RX12_56 rfl rfl ?_
        refine v_iload_n dX12_layFewest_12 rfl ?_
        refine v_iconst dX12_layFewest_13 ?_
        refine v_iastore dX12_layFewest_14 rfl (by exact vp_in_nI (by omega) (by omega)) ?_
        rw [nI_clamp (by omega), fillI_s]
        refine v_iinc dX12_layFewest_15 rfl (Nat.le_of_ble_eq_true rfl) rfl ?_
        refine v_goto dX12_layFewest_18 ?_
        rw [nI_1]
        exact ih (v + 1) (by omega) _ _ _ _ _ _
  refine ok_enter rfl (Nat.le_of_ble_eq_true rfl) ?_
  have h1 := fill1 100 0 (by omega)
  rw [fillI_0] at h1
  refine v_iconst dX12_layFewest_0 ?_
  refine v_istore_n dX12_layFewest_1 (Nat.le_of_ble_eq_true rfl) rfl ?_
  exact h1 _ _ _ _ _ _
theorem LW.few {v : Nat} (h : LW τ R.2.2.2.1 (bfAll R s)) (hv : v < 100) : τ.1 57 v = iz (fewS R s v) := by
  cases hb : bfF v (bfAll R s) with
  | some e => rw [((h v hv).1 e hb).1, few_some hb, iz_nI]
  | none => rw [(h v hv).2 hb, few_none hb]; rfl
theorem ok_layA (hP : MP σ R s) (hQ : ∀ τ, ScFr σ τ → (0 < R.2.2.2.1 → LQ τ R.2.2.2.1 (bfAll R s) ∧ LW τ R.2.2.2.1 (bfAll R s) ∧ ∀ v, v < 100 → τ.1 57 v = iz (fewS R s v)) → Q none τ) : Ok (D + 4) mX12_layFewest [.ref 44, .int (nI R.2.2.2.2.length)] σ Q := by
  obtain ⟨a1, a2, a3, a4, a5⟩ := hP
  rcases Nat.eq_zero_or_pos R.2.2.2.1 with h0 | h0
  · refine ok_layFewest0 (by rw [a1.2.2.2.1, h0]; rfl) (hQ _ ⟨fun a b h => fillI_o (by omega), rfl⟩ (fun h => absurd h (by omega)))
  · exact ok_layFewest a1 (a3.mono (by decide)) h0 a4 a5 (fun τ f => hQ τ ⟨fun a b h => f.1 a b (by omega), f.2.1⟩ (fun _ => ⟨f.2.2.1, f.2.2.2, fun v hv => f.2.2.2.few hv⟩))
theorem ok_mfewest {x : Int32} (hP : MP σ R s) (hQ : ∀ τ, ScFr σ τ → Q (some (.int (if 0 ≤ x.toInt ∧ x.toInt < R.2.2.2.1 then iz (fewS R s x.toInt.toNat) else OUT))) τ) : Ok (D + 5) mX12_fewest [.ref 44, .int x] σ Q := by
  obtain ⟨hM, h4, hv, hS, hs⟩ := id hP
  have hm := hv.m100
  refine ok_enter rfl (Nat.le_of_ble_eq_true rfl) ?_
  refine v_aload_n dX12_fewest_0 rfl ?_
  refine v_iload_n dX12_fewest_1 rfl ?_
  refine v_callV1 dX12_fewest_2 mv_RX12_243 rfl rfl (Nat.le_of_ble_eq_true rfl) ?_
  refine ok_isNumber hM.2.2.2.1 hm ?_
  show V _ _ _ _ (_ :: _) _ _
  refine v_if_ne dX12_fewest_5 (fun zc5 => ?_) (fun zc5 => ?_)
  · have hx : 0 ≤ x.toInt ∧ x.toInt < R.2.2.2.1 := by
      by_cases h : 0 ≤ x.toInt ∧ x.toInt < (R.2.2.2.1 : Int)
      · exact h
      · rw [if_neg h] at zc5; exact absurd rfl zc5
    refine v_aload_n dX12_fewest_11 rfl ?_
    refine v_aload_n dX12_fewest_12 rfl ?_
    refine v_getI dX12_fewest_13 fl_RX12_182 rfl ?_
    rw [h4]
    refine v_callV1 dX12_fewest_16 mv_RX12_246 rfl rfl (Nat.le_of_ble_eq_true rfl) ?_
    refine ok_layA hP (fun τ f1 f2 => ?_)
    show V _ _ _ _ _ _ _
    refine v_aload_n dX12_fewest_19 rfl ?_
    refine v_getR (q := 57) dX12_fewest_20 fl_RX12_56 rfl rfl ?_
    refine v_iload_n dX12_fewest_23 rfl ?_
    refine v_iaload dX12_fewest_24 rfl (by exact iz_vin hx.1 (by omega)) ?_
    rw [iz_cl, (f2 (by omega)).2.2 _ (by omega)]
    refine v_ireturn dX12_fewest_25 rfl (rfl) ?_
    have h9 := hQ τ f1
    rw [if_pos hx] at h9
    exact h9
  · have hx : ¬ (0 ≤ x.toInt ∧ x.toInt < R.2.2.2.1) := fun h => by rw [if_pos h] at zc5; exact absurd zc5 (by decide)
    refine v_ldc dX12_fewest_8 cn_RX12_72 ?_
    refine v_ireturn dX12_fewest_10 rfl (rfl) ?_
    have h9 := hQ σ ScFr.rf
    rw [if_neg hx] at h9
    exact h9
theorem ok_mnever {x : Int32} (hP : MP σ R s) (hQ : ∀ τ, ScFr σ τ → Q (some (.int (iz (nevG (fewS R s) x.toInt R.2.2.2.1 0 0)))) τ) : Ok (D + 5) mX12_never [.ref 44, .int x] σ Q := by
  obtain ⟨hM, h4, hv, hS, hs⟩ := id hP
  have hm := hv.m100
  obtain ⟨x1, x2⟩ := iz_rng x
  have hxe := iz_of x
  generalize hxi : x.toInt = xi at *
  subst hxe
  have loop : ∀ τ, ScFr σ τ → (0 < R.2.2.2.1 → ∀ v, v < 100 → τ.1 57 v = iz (fewS R s v)) → ∀ j v (c : Nat), v + j = R.2.2.2.1 → c ≤ v → nevG (fewS R s) xi R.2.2.2.1 0 0 = nevG (fewS R s) xi j v c → V mX12_never (D + 5) 12 [some (.ref 44), some (.int (iz xi)), some (.int (nI c)), some (.int (nI v))] [] τ Q := by
    intro τ f1 f3 j
    have h32 := (hP.sc f1).1.2.2.2.1
    have hq := hQ τ f1
    induction j with
    | zero =>
      intro v c hvc hc he
      rw [he] at hq
      unfold nevG at hq
      refine v_iload_n dX12_never_12 rfl ?_
      refine v_aload_n dX12_never_13 rfl ?_
      refine v_getI dX12_never_14 fl_RX12_65 rfl ?_
      rw [h32]
      refine v_icmp_ge dX12_never_17 (fun zc17 => ?_) (fun zc17 => ?_)
      · refine v_iload_n dX12_never_46 rfl ?_
        refine v_iconst dX12_never_47 ?_
        refine v_icmp_ne dX12_never_48 (fun zc48 => ?_) (fun zc48 => ?_)
        · rw [show (-1 : Int32) = iz (-1) from rfl, iz_eq (by omega) (by omega) (by omega) (by omega)] at zc48
          refine v_iconst dX12_never_55 ?_
          refine v_ireturn dX12_never_56 rfl (rfl) ?_
          first | (rw [if_pos zc48] at hq; rw [iz_nI]; exact hq) | (rw [if_neg zc48] at hq; exact hq)
        · rw [show (-1 : Int32) = iz (-1) from rfl, iz_eq (by omega) (by omega) (by omega) (by omega)] at zc48
          refine v_iload_n dX12_never_51 rfl ?_
          refine v_goto dX12_never_52 ?_
          refine v_ireturn dX12_never_56 rfl (rfl) ?_
          first | (rw [if_pos zc48] at hq; rw [iz_nI]; exact hq) | (rw [if_neg zc48] at hq; exact hq)
      · exact absurd (nI_le (by omega) (by omega)) zc17
    | succ j ih =>
      intro v c hvc hc he
      have hfv := f3 (by omega) v (by omega)
      obtain ⟨r1, r2⟩ := few_rng (v := v) hv (by omega) hm hs
      have hst : nevG (fewS R s) xi (j + 1) v c = if fewS R s v = -1 then (if (c : Int) = xi then (v : Int) else nevG (fewS R s) xi j (v + 1) ((c : Int) + 1)) else nevG (fewS R s) xi j (v + 1) c := rfl
      refine v_iload_n dX12_never_12 rfl ?_
      refine v_aload_n dX12_never_13 rfl ?_
      refine v_getI dX12_never_14 fl_RX12_65 rfl ?_
      rw [h32]
      refine v_icmp_ge dX12_never_17 (fun zc17 => ?_) (fun zc17 => ?_)
      · exact absurd zc17 (nI_ge (by omega) (by omega))
      · refine v_aload_n dX12_never_20 rfl ?_
        refine v_getR (q := 57) dX12_never_21 fl_RX12_56 rfl rfl ?_
        refine v_iload_n dX12_never_24 rfl ?_
        refine v_iaload dX12_never_25 rfl (by exact vp_in_nI (by omega) (by omega)) ?_
        rw [nI_clamp (by omega), hfv]
        refine v_iconst dX12_never_26 ?_
        refine v_icmp_ne dX12_never_27 (fun zc27 => ?_) (fun zc27 => ?_)
        · rw [show (-1 : Int32) = iz (-1) from rfl, iz_eq (by omega) (by omega) (by omega) (by omega)] at zc27
          refine v_iinc dX12_never_40 rfl (Nat.le_of_ble_eq_true rfl) rfl ?_
          refine v_goto dX12_never_43 ?_
          first | (rw [nI_1, nI_1]; refine ih (v + 1) (c + 1) (by omega) (by omega) ?_; rw [he, hst, if_pos zc27, if_neg zc32]; rfl) | (rw [nI_1]; refine ih (v + 1) c (by omega) (by omega) ?_; rw [he, hst, if_neg zc27])
        · rw [show (-1 : Int32) = iz (-1) from rfl, iz_eq (by omega) (by omega) (by omega) (by omega)] at zc27
          refine v_iload_n dX12_never_30 rfl ?_
          refine v_iload_n dX12_never_31 rfl ?_
          refine v_icmp_ne dX12_never_32 (fun zc32 => ?_) (fun zc32 => ?_)
          · rw [iz_nI, iz_eq (by omega) (by omega) (by omega) (by omega)] at zc32
            refine v_iinc dX12_never_37 rfl (Nat.le_of_ble_eq_true rfl) rfl ?_
            refine v_iinc dX12_never_40 rfl (Nat.le_of_ble_eq_true rfl) rfl ?_
            refine v_goto dX12_never_43 ?_
            first | (rw [nI_1, nI_1]; refine ih (v + 1) (c + 1) (by omega) (by omega) ?_; rw [he, hst, if_pos zc27, if_neg zc32]; rfl) | (rw [nI_1]; refine ih (v + 1) c (by omega) (by omega) ?_; rw [he, hst, if_neg zc27])
          · rw [iz_nI, iz_eq (by omega) (by omega) (by omega) (by omega)] at zc32
            refine v_iload_n dX12_never_35 rfl ?_
            refine v_ireturn dX12_never_36 rfl (rfl) ?_
            rw [he, hst, if_pos zc27, if_pos zc32] at hq
            rw [iz_nI]
            exact hq
  refine ok_enter rfl (Nat.le_of_ble_eq_true rfl) ?_
  refine v_aload_n dX12_never_0 rfl ?_
  refine v_aload_n dX12_never_1 rfl ?_
  refine v_getI dX12_never_2 fl_RX12_182 rfl ?_
  rw [h4]
  refine v_callV1 dX12_never_5 mv_RX12_246 rfl rfl (Nat.le_of_ble_eq_true rfl) ?_
  refine ok_layA hP (fun τ f1 f2 => ?_)
  show V _ _ _ _ _ _ _
  refine v_iconst dX12_never_8 ?_
  refine v_istore_n dX12_never_9 (Nat.le_of_ble_eq_true rfl) rfl ?_
  refine v_iconst dX12_never_10 ?_
  refine v_istore_n dX12_never_11 (Nat.le_of_ble_eq_true rfl) rfl ?_
  exact loop τ f1 (fun h => (f2 h).2.2) R.2.2.2.1 0 0 (by omega) (by omega) rfl
theorem ok_mway {x y : Int32} (hP : MP σ R s) (hQ : ∀ τ, ScFr σ τ → Q (some (.int (if 0 ≤ x.toInt ∧ x.toInt < R.2.2.2.1 then iz (wayS R s x.toInt.toNat y.toInt) else OUT))) τ) : Ok (D + 5) mX12_way [.ref 44, .int x, .int y] σ Q := by
  obtain ⟨hM, h4, hv, hS, hs⟩ := id hP
  have hm := hv.m100
  have hnk := hv.n9
  obtain ⟨y1, y2⟩ := iz_rng y
  have hye := iz_of y
  generalize hyi : y.toInt = yi at *
  subst hye
  have hW := bfAll_W (R := R) (s := s)
  have hD := (bfAll_D (R := R) (s := s)).1
  have loop : 0 < R.2.2.2.1 → ∀ τ, LQ τ R.2.2.2.1 (bfAll R s) → ∀ (n p : Nat), p < (bfAll R s).length → 0 ≤ yi → (((bfAll R s).getD p en0).2.2.2 : Int) = yi + 1 + n → Q (some (.int (iz (((bfAll R s).getD (anc (bfAll R s) p n) en0).2.2.1 : Nat)))) τ → V mX12_way (D + 5) 42 [some (.ref 44), some (.int x), some (.int (iz yi)), some (.int (nI (mc R.2.2.2.1 ((bfAll R s).getD p en0).1)))] [] τ Q := by
    intro h0 τ hLQ n
    have hFl := bfAll_len hv h0 hm hs
    have hFV := bfAll_V hv hs
    have h8 := mm_le hm
    induction n with
    | zero =>
      intro p hp hy0 hd hq
      have e2 : (bfAll R s)[p]? = some ((bfAll R s).getD p en0) := by rw [List.getD, List.getElem?_eq_getElem hp]; rfl
      have hp0 : 0 < p := by have := (hW p _ e2).1; omega
      have hpd := (hW p _ e2).1
      obtain ⟨l1, l2, l3⟩ := hLQ.1 p _ e2
      have hkk := ((hW p _ e2).2 hp0)
      have hc := mc_lt h0 (hFV.2 _ (getD_mem hp)).w
      have hc2 := mc_lt h0 (hFV.2 _ (getD_mem (q := bfAll R s) (i := ((bfAll R s).getD p en0).2.1) (by omega))).w
      refine v_aload_n dX12_way_42 rfl ?_
      refine v_getR (q := 53) dX12_way_43 fl_RX12_44 rfl rfl ?_
      refine v_iload_n dX12_way_46 rfl ?_
      refine v_iaload dX12_way_47 rfl (by exact vp_in_nI (by omega) (by omega)) ?_
      rw [nI_clamp (by omega), l2]
      refine v_iload_n dX12_way_48 rfl ?_
      refine v_iconst dX12_way_49 ?_
      refine v_iadd dX12_way_50 ?_
      refine v_icmp_le dX12_way_51 (fun zc51 => ?_) (fun zc51 => ?_)
      · refine v_aload_n dX12_way_67 rfl ?_
        refine v_getR (q := 55) dX12_way_68 fl_RX12_50 rfl rfl ?_
        refine v_iload_n dX12_way_71 rfl ?_
        refine v_iaload dX12_way_72 rfl (by exact vp_in_nI (by omega) (by omega)) ?_
        rw [nI_clamp (by omega), l3 hp0]
        refine v_ldc dX12_way_73 cn_RX12_43 ?_
        refine v_idiv dX12_way_75 (by decide) ?_
        refine v_ireturn dX12_way_76 rfl (rfl) ?_
        rw [show (80000 : Int32) = nI 80000 from rfl, pk_div (by omega) (by omega) (by omega), show (80000 * ((bfAll R s).getD p en0).2.2.1 + mc R.2.2.2.1 ((bfAll R s).getD ((bfAll R s).getD p en0).2.1 en0).1) / 80000 = ((bfAll R s).getD p en0).2.2.1 by omega, iz_nI]
        exact hq
      · rw [show (1 : Int32) = iz 1 from rfl, iz_nI, iz_add, iz_le (by omega) (by omega) (by omega) (by omega)] at zc51; exfalso; omega
    | succ n ih =>
      intro p hp hy0 hd hq
      have e2 : (bfAll R s)[p]? = some ((bfAll R s).getD p en0) := by rw [List.getD, List.getElem?_eq_getElem hp]; rfl
      have hp0 : 0 < p := by have := (hW p _ e2).1; omega
      have hpd := (hW p _ e2).1
      obtain ⟨l1, l2, l3⟩ := hLQ.1 p _ e2
      have hkk := ((hW p _ e2).2 hp0)
      have hdd := hD p _ e2 hp0
      have hc := mc_lt h0 (hFV.2 _ (getD_mem hp)).w
      have hc2 := mc_lt h0 (hFV.2 _ (getD_mem (q := bfAll R s) (i := ((bfAll R s).getD p en0).2.1) (by omega))).w
      have hnx := ih ((bfAll R s).getD p en0).2.1 (by omega) hy0 (by omega) hq
      refine v_aload_n dX12_way_42 rfl ?_
      refine v_getR (q := 53) dX12_way_43 fl_RX12_44 rfl rfl ?_
      refine v_iload_n dX12_way_46 rfl ?_
      refine v_iaload dX12_way_47 rfl (by exact vp_in_nI (by omega) (by omega)) ?_
      rw [nI_clamp (by omega), l2]
      refine v_iload_n dX12_way_48 rfl ?_
      refine v_iconst dX12_way_49 ?_
      refine v_iadd dX12_way_50 ?_
      refine v_icmp_le dX12_way_51 (fun zc51 => ?_) (fun zc51 => ?_)
      · rw [show (1 : Int32) = iz 1 from rfl, iz_nI, iz_add, iz_le (by omega) (by omega) (by omega) (by omega)] at zc51; exfalso; omega
      · refine v_aload_n dX12_way_54 rfl ?_
        refine v_getR (q := 55) dX12_way_55 fl_RX12_50 rfl rfl ?_
        refine v_iload_n dX12_way_58 rfl ?_
        refine v_iaload dX12_way_59 rfl (by exact vp_in_nI (by omega) (by omega)) ?_
        rw [nI_clamp (by omega), l3 hp0]
        refine v_ldc dX12_way_60 cn_RX12_43 ?_
        refine v_irem dX12_way_62 (by decide) ?_
        rw [show (80000 : Int32) = nI 80000 from rfl, pk_rem (by omega) (by omega) (by omega), show (80000 * ((bfAll R s).getD p en0).2.2.1 + mc R.2.2.2.1 ((bfAll R s).getD ((bfAll R s).getD p en0).2.1 en0).1) % 80000 = mc R.2.2.2.1 ((bfAll R s).getD ((bfAll R s).getD p en0).2.1 en0).1 by omega]
        refine v_istore_n dX12_way_63 (Nat.le_of_ble_eq_true rfl) rfl ?_
        refine v_goto dX12_way_64 ?_
        exact hnx
  refine ok_enter rfl (Nat.le_of_ble_eq_true rfl) ?_
  refine v_aload_n dX12_way_0 rfl ?_
  refine v_iload_n dX12_way_1 rfl ?_
  refine v_callV1 dX12_way_2 mv_RX12_243 rfl rfl (Nat.le_of_ble_eq_true rfl) ?_
  refine ok_isNumber hM.2.2.2.1 hm ?_
  show V _ _ _ _ (_ :: _) _ _
  refine v_if_ne dX12_way_5 (fun zc5 => ?_) (fun zc5 => ?_)
  · have hx : 0 ≤ x.toInt ∧ x.toInt < R.2.2.2.1 := by
      by_cases h : 0 ≤ x.toInt ∧ x.toInt < (R.2.2.2.1 : Int)
      · exact h
      · rw [if_neg h] at zc5; exact absurd rfl zc5
    obtain ⟨r1, r2⟩ := few_rng (v := x.toInt.toNat) hv (by omega) hm hs
    refine v_aload_n dX12_way_11 rfl ?_
    refine v_aload_n dX12_way_12 rfl ?_
    refine v_getI dX12_way_13 fl_RX12_182 rfl ?_
    rw [h4]
    refine v_callV1 dX12_way_16 mv_RX12_246 rfl rfl (Nat.le_of_ble_eq_true rfl) ?_
    refine ok_layA hP (fun τ f1 f2 => ?_)
    have hQ2 := hQ τ f1
    rw [if_pos hx] at hQ2
    obtain ⟨f3, f4, f5⟩ := f2 (by omega)
    show V _ _ _ _ _ _ _
    refine v_iload_n dX12_way_19 rfl ?_
    refine v_if_lt dX12_way_20 (fun zc20 => ?_) (fun zc20 => ?_)
    · rw [show (0 : Int32) = iz 0 from rfl, iz_lt (by omega) (by omega) (by omega) (by omega)] at zc20
      refine v_iconst dX12_way_33 ?_
      refine v_ireturn dX12_way_34 rfl (rfl) ?_
      unfold wayS at hQ2
      rw [if_neg (by omega)] at hQ2
      exact hQ2
    · rw [show (0 : Int32) = iz 0 from rfl, iz_lt (by omega) (by omega) (by omega) (by omega)] at zc20
      refine v_iload_n dX12_way_23 rfl ?_
      refine v_aload_n dX12_way_24 rfl ?_
      refine v_getR (q := 57) dX12_way_25 fl_RX12_56 rfl rfl ?_
      refine v_iload_n dX12_way_28 rfl ?_
      refine v_iaload dX12_way_29 rfl (by exact iz_vin hx.1 (by omega)) ?_
      rw [iz_cl, f5 _ (by omega)]
      refine v_icmp_lt dX12_way_30 (fun zc30 => ?_) (fun zc30 => ?_)
      · rw [iz_lt (by omega) (by omega) (by omega) (by omega)] at zc30
        refine v_aload_n dX12_way_35 rfl ?_
        refine v_getR (q := 58) dX12_way_36 fl_RX12_59 rfl rfl ?_
        refine v_iload_n dX12_way_39 rfl ?_
        refine v_iaload dX12_way_40 rfl (by exact iz_vin hx.1 (by omega)) ?_
        have hfe : ∃ e, bfF x.toInt.toNat (bfAll R s) = some e := by
          cases hb : bfF x.toInt.toNat (bfAll R s) with
          | some e => exact ⟨e, rfl⟩
          | none => rw [few_none hb] at zc30; exfalso; omega
        obtain ⟨e, he⟩ := hfe
        have hbg := bfI_get he
        have hbl := (List.getElem?_eq_some_iff.mp hbg).1
        have hfe2 := few_some he
        have hbe : (bfAll R s).getD (bfI x.toInt.toNat (bfAll R s)) en0 = e := by rw [List.getD, hbg]; rfl
        unfold wayS at hQ2
        rw [if_pos ⟨by omega, by omega⟩] at hQ2
        rw [iz_cl, ((f4 x.toInt.toNat (by omega)).1 e he).2, ← hbe]
        refine v_istore_n dX12_way_41 (Nat.le_of_ble_eq_true rfl) rfl ?_
        have hl := loop (by omega) τ f3 (fewS R s x.toInt.toNat - 1 - yi).toNat (bfI x.toInt.toNat (bfAll R s)) hbl (by omega) (by rw [hbe]; omega) (by simpa using hQ2)
        exact hl
      · rw [iz_lt (by omega) (by omega) (by omega) (by omega)] at zc30
        refine v_iconst dX12_way_33 ?_
        refine v_ireturn dX12_way_34 rfl (rfl) ?_
        unfold wayS at hQ2
        rw [if_neg (by omega)] at hQ2
        exact hQ2
  · have hx : ¬ (0 ≤ x.toInt ∧ x.toInt < R.2.2.2.1) := fun h => by rw [if_pos h] at zc5; exact absurd zc5 (by decide)
    refine v_ldc dX12_way_8 cn_RX12_72 ?_
    refine v_ireturn dX12_way_10 rfl (rfl) ?_
    have h9 := hQ σ ScFr.rf
    rw [if_neg hx] at h9
    exact h9
/-! the farthest is one alone -/
theorem fthG_spec (fw : Nat → Int) (m : Nat) : ∀ j v b, v + j = m → b < v → (∀ u, u < v → fw u ≤ fw b) → (∀ u, u < b → fw u < fw b) → (fthG fw j v b < m ∧ (∀ u, u < m → fw u ≤ fw (fthG fw j v b)) ∧ ∀ u, u < fthG fw j v b → fw u < fw (fthG fw j v b))
  | 0, v, b, h, hb, h1, h2 => ⟨by show b < m; omega, fun u hu => h1 u (by omega), h2⟩
  | j + 1, v, b, h, hb, h1, h2 => by
    show fthG fw j (v + 1) (if fw b < fw v then v else b) < m ∧ _
    by_cases hc : fw b < fw v
    · have e : fthG fw (j + 1) v b = fthG fw j (v + 1) v := by show fthG fw j (v + 1) (if fw b < fw v then v else b) = _; rw [if_pos hc]
      rw [e, if_pos hc]
      refine fthG_spec fw m j (v + 1) v (by omega) (by omega) (fun u hu => ?_) (fun u hu => ?_)
      · rcases Nat.lt_or_ge u v with h3 | h3
        · have := h1 u h3; omega
        · rw [show u = v by omega]; exact Int.le_refl _
      · have := h1 u hu; omega
    · have e : fthG fw (j + 1) v b = fthG fw j (v + 1) b := by show fthG fw j (v + 1) (if fw b < fw v then v else b) = _; rw [if_neg hc]
      rw [e, if_neg hc]
      refine fthG_spec fw m j (v + 1) b (by omega) (by omega) (fun u hu => ?_) h2
      rcases Nat.lt_or_ge u v with h3 | h3
      · exact h1 u h3
      · rw [show u = v by omega]; omega
theorem fth_eq {fw : Nat → Int} {m b : Nat} (hm : 0 < m) (hb : b < m) (h1 : ∀ u, u < m → fw u ≤ fw b) (h2 : ∀ u, u < b → fw u < fw b) : b = fthG fw (m - 1) 1 0 := by
  obtain ⟨a1, a2, a3⟩ := fthG_spec fw m (m - 1) 1 0 (by omega) (by omega) (fun u hu => by rw [show u = 0 by omega]; exact Int.le_refl _) (fun u hu => absurd hu (by omega))
  rcases Nat.lt_trichotomy b (fthG fw (m - 1) 1 0) with h | h | h
  · have e1 := a3 b h
    have e2 := h1 _ a1
    omega
  · exact h
  · have e1 := h2 _ h
    have e2 := a2 b hb
    omega
theorem ok_mfarthest {x : Int32} (hP : MP σ R s) (hQ : ∀ τ, ScFr σ τ → Q (some (.int (if x.toInt < 0 ∨ 1 < x.toInt then OUT else if R.2.2.2.1 = 0 then NOTN else if x.toInt = 0 then nI (fthG (fewS R s) (R.2.2.2.1 - 1) 1 0) else iz (fewS R s (fthG (fewS R s) (R.2.2.2.1 - 1) 1 0))))) τ) : Ok (D + 5) mX12_farthest [.ref 44, .int x] σ Q := by
  obtain ⟨hM, h4, hv, hS, hs⟩ := id hP
  have hm := hv.m100
  have h3 := hM.2.2.2.1
  obtain ⟨x1, x2⟩ := iz_rng x
  have hxe := iz_of x
  generalize hxi : x.toInt = xi at *
  subst hxe
  have loop : 0 < R.2.2.2.1 → ¬ (xi < 0 ∨ 1 < xi) → ∀ τ, ScFr σ τ → (∀ v, v < 100 → τ.1 57 v = iz (fewS R s v)) → ∀ v b, v ≤ R.2.2.2.1 → b < R.2.2.2.1 → (∀ u, v ≤ u → u < R.2.2.2.1 → fewS R s u ≤ fewS R s b) → (∀ u, v ≤ u → u < b → fewS R s u < fewS R s b) → V mX12_farthest (D + 5) 43 [some (.ref 44), some (.int (iz xi)), some (.int (nI b)), some (.int (iz ((v : Int) - 1)))] [] τ Q := by
    intro h0 hxx τ f1 f3 v
    have hq := hQ τ f1
    rw [if_neg hxx, if_neg (by omega)] at hq
    induction v with
    | zero =>
      intro b hvm hb g1 g2
      rw [← fth_eq h0 hb (fun u hu => g1 u (by omega) hu) (fun u hu => g2 u (by omega) hu)] at hq
      refine v_iload_n dX12_farthest_43 rfl ?_
      refine v_if_lt dX12_farthest_44 (fun zc44 => ?_) (fun zc44 => ?_)
      · try simp (disch := omega) only [iz_lit, iz_nI, iz_neg, iz_add, iz_sub, iz_mul, iz_lt, iz_le, iz_eq] at zc44
        refine v_iload_n dX12_farthest_74 rfl ?_
        refine v_if_ne dX12_farthest_75 (fun zc75 => ?_) (fun zc75 => ?_)
        · try simp (disch := omega) only [iz_lit, iz_nI, iz_neg, iz_add, iz_sub, iz_mul, iz_lt, iz_le, iz_eq] at zc75
          refine v_aload_n dX12_farthest_82 rfl ?_
          refine v_getR (q := 57) dX12_farthest_83 fl_RX12_56 rfl rfl ?_
          refine v_iload_n dX12_farthest_86 rfl ?_
          refine v_iaload dX12_farthest_87 rfl (by exact vp_in_nI (by omega) (by omega)) ?_
          rw [nI_clamp (by omega), f3 b (by omega)]
          refine v_ireturn dX12_farthest_88 rfl (rfl) ?_
          first | (rw [if_pos (by omega)] at hq; exact hq) | (rw [if_neg (by omega)] at hq; exact hq)
        · try simp (disch := omega) only [iz_lit, iz_nI, iz_neg, iz_add, iz_sub, iz_mul, iz_lt, iz_le, iz_eq] at zc75
          refine v_iload_n dX12_farthest_78 rfl ?_
          refine v_goto dX12_farthest_79 ?_
          refine v_ireturn dX12_farthest_88 rfl (rfl) ?_
          first | (rw [if_pos (by omega)] at hq; exact hq) | (rw [if_neg (by omega)] at hq; exact hq)
      · try simp (disch := omega) only [iz_lit, iz_nI, iz_neg, iz_add, iz_sub, iz_mul, iz_lt, iz_le, iz_eq] at zc44
        exfalso; omega
    | succ v ih =>
      intro b hvm hb g1 g2
      obtain ⟨r1, r2⟩ := few_rng (v := v) hv (by omega) hm hs
      obtain ⟨r3, r4⟩ := few_rng (v := b) hv (by omega) hm hs
      have ev : iz (((v + 1 : Nat) : Int) - 1) = nI v := by rw [iz_nI]; congr 1; omega
      rw [ev]
      refine v_iload_n dX12_farthest_43 rfl ?_
      refine v_if_lt dX12_farthest_44 (fun zc44 => ?_) (fun zc44 => ?_)
      · exact absurd zc44 (nI_pos (by omega))
      · refine v_aload_n dX12_farthest_47 rfl ?_
        refine v_getR (q := 57) dX12_farthest_48 fl_RX12_56 rfl rfl ?_
        refine v_iload_n dX12_farthest_51 rfl ?_
        refine v_iaload dX12_farthest_52 rfl (by exact vp_in_nI (by omega) (by omega)) ?_
        rw [nI_clamp (by omega), f3 v (by omega)]
        refine v_aload_n dX12_farthest_53 rfl ?_
        refine v_getR (q := 57) dX12_farthest_54 fl_RX12_56 rfl rfl ?_
        refine v_iload_n dX12_farthest_57 rfl ?_
        refine v_iaload dX12_farthest_58 rfl (by exact vp_in_nI (by omega) (by omega)) ?_
        rw [nI_clamp (by omega), f3 b (by omega)]
        refine v_icmp_lt dX12_farthest_59 (fun zc59 => ?_) (fun zc59 => ?_)
        · rw [iz_lt (by omega) (by omega) (by omega) (by omega)] at zc59
          refine v_iload_n dX12_farthest_66 rfl ?_
          refine v_istore_n dX12_farthest_67 (Nat.le_of_ble_eq_true rfl) rfl ?_
          refine v_iinc dX12_farthest_68 rfl (Nat.le_of_ble_eq_true rfl) rfl ?_
          refine v_goto dX12_farthest_71 ?_
          rw [show (-1 : Int32) = iz (-1) from rfl, show nI v + iz (-1) = iz ((v : Int) - 1) by rw [iz_nI, iz_add]; rfl]
          first | (refine ih b (by omega) hb (fun u h5 h6 => ?_) (fun u h5 h6 => ?_); (rcases Nat.lt_or_ge u (v + 1) with h7 | h7; (rw [show u = v by omega]; omega); exact g1 u h7 h6); (rcases Nat.lt_or_ge u (v + 1) with h7 | h7; (rw [show u = v by omega]; exact zc59); exact g2 u h7 h6); done) | (refine ih v (by omega) (by omega) (fun u h5 h6 => ?_) (fun u h5 h6 => absurd h6 (by omega)); (rcases Nat.lt_or_ge u (v + 1) with h7 | h7; (rw [show u = v by omega]; exact Int.le_refl _); (have := g1 u h7 h6; omega)); done)
        · rw [iz_lt (by omega) (by omega) (by omega) (by omega)] at zc59
          refine v_iload_n dX12_farthest_62 rfl ?_
          refine v_goto dX12_farthest_63 ?_
          refine v_istore_n dX12_farthest_67 (Nat.le_of_ble_eq_true rfl) rfl ?_
          refine v_iinc dX12_farthest_68 rfl (Nat.le_of_ble_eq_true rfl) rfl ?_
          refine v_goto dX12_farthest_71 ?_
          rw [show (-1 : Int32) = iz (-1) from rfl, show nI v + iz (-1) = iz ((v : Int) - 1) by rw [iz_nI, iz_add]; rfl]
          first | (refine ih b (by omega) hb (fun u h5 h6 => ?_) (fun u h5 h6 => ?_); (rcases Nat.lt_or_ge u (v + 1) with h7 | h7; (rw [show u = v by omega]; omega); exact g1 u h7 h6); (rcases Nat.lt_or_ge u (v + 1) with h7 | h7; (rw [show u = v by omega]; exact zc59); exact g2 u h7 h6); done) | (refine ih v (by omega) (by omega) (fun u h5 h6 => ?_) (fun u h5 h6 => absurd h6 (by omega)); (rcases Nat.lt_or_ge u (v + 1) with h7 | h7; (rw [show u = v by omega]; exact Int.le_refl _); (have := g1 u h7 h6; omega)); done)
  refine ok_enter rfl (Nat.le_of_ble_eq_true rfl) ?_
  refine v_iload_n dX12_farthest_0 rfl ?_
  refine v_iconst dX12_farthest_1 ?_
  refine v_iconst dX12_farthest_2 ?_
  refine v_callS3 dX12_farthest_3 ms_RX12_68 (Nat.le_of_ble_eq_true rfl) ?_
  refine ok_in ?_
  rw [iz_T0, show ((1 : Int32)).toInt = 1 from rfl, iz_toInt (by omega) (by omega)]
  show V _ _ _ _ (_ :: _) _ _
  refine v_if_ne dX12_farthest_6 (fun zc6 => ?_) (fun zc6 => ?_)
  · have hxx : ¬ (xi < 0 ∨ 1 < xi) := fun h => by rw [if_neg (by omega)] at zc6; exact absurd rfl zc6
    refine v_aload_n dX12_farthest_12 rfl ?_
    refine v_getI dX12_farthest_13 fl_RX12_65 rfl ?_
    rw [h3]
    refine v_if_ne dX12_farthest_16 (fun zc16 => ?_) (fun zc16 => ?_)
    · rw [show (0 : Int32) = nI 0 from rfl, nI_eq (by omega) (by omega)] at zc16
      refine v_aload_n dX12_farthest_23 rfl ?_
      refine v_aload_n dX12_farthest_24 rfl ?_
      refine v_getI dX12_farthest_25 fl_RX12_182 rfl ?_
      rw [h4]
      refine v_callV1 dX12_farthest_28 mv_RX12_246 rfl rfl (Nat.le_of_ble_eq_true rfl) ?_
      refine ok_layA hP (fun τ f1 f2 => ?_)
      obtain ⟨g1, g2, g3, g4, g5⟩ := hP.sc f1
      show V _ _ _ _ _ _ _
      refine v_aload_n dX12_farthest_31 rfl ?_
      refine v_getI dX12_farthest_32 fl_RX12_197 rfl ?_
      rw [g4.1]
      refine v_istore_n dX12_farthest_35 (Nat.le_of_ble_eq_true rfl) rfl ?_
      refine v_aload_n dX12_farthest_36 rfl ?_
      refine v_getI dX12_farthest_37 fl_RX12_65 rfl ?_
      rw [g1.2.2.2.1]
      refine v_iconst dX12_farthest_40 ?_
      refine v_isub dX12_farthest_41 ?_
      refine v_istore_n dX12_farthest_42 (Nat.le_of_ble_eq_true rfl) rfl ?_
      have hl := loop (by omega) hxx τ f1 (f2 (by omega)).2.2 R.2.2.2.1 s.1 (Nat.le_refl _) (by have := hs.1; omega) (fun u h5 h6 => absurd h6 (by omega)) (fun u h5 h6 => absurd h6 (by have := hs.1; omega))
      rw [show (1 : Int32) = iz 1 from rfl, iz_nI R.2.2.2.1, iz_sub]
      exact hl
    · rw [show (0 : Int32) = nI 0 from rfl, nI_eq (by omega) (by omega)] at zc16
      refine v_ldcw dX12_farthest_19 cn_RX12_258 ?_
      refine v_ireturn dX12_farthest_22 rfl (rfl) ?_
      have hq := hQ σ ScFr.rf
      rw [if_neg hxx, if_pos (by omega)] at hq
      exact hq
  · have hxx : xi < 0 ∨ 1 < xi := by
      by_cases h : 0 ≤ xi ∧ xi ≤ 1
      · rw [if_pos h] at zc6; exact absurd zc6 (by decide)
      · omega
    refine v_ldc dX12_farthest_9 cn_RX12_72 ?_
    refine v_ireturn dX12_farthest_11 rfl (rfl) ?_
    have hq := hQ σ ScFr.rf
    rw [if_pos hxx] at hq
    exact hq
theorem ok_mquick {x y : Int32} (hP : MP σ R s) (hQ : ∀ τ, ScFr σ τ → Q (some (.int (if x.toInt < 0 ∨ 999 < x.toInt ∨ y.toInt < 0 ∨ 999 < y.toInt then OUT else iz (qkG (fewS R s) x.toInt y.toInt R.2.2.2.1 0 (-1))))) τ) : Ok (D + 5) mX12_quick [.ref 44, .int x, .int y] σ Q := by
  obtain ⟨hM, h4, hv, hS, hs⟩ := id hP
  have hm := hv.m100
  have h3 := hM.2.2.2.1
  obtain ⟨x1, x2⟩ := iz_rng x
  have hxe := iz_of x
  generalize hxi : x.toInt = xi at *
  subst hxe
  obtain ⟨y1, y2⟩ := iz_rng y
  have hye := iz_of y
  generalize hyi : y.toInt = yi at *
  subst hye
  have loop : ¬ (xi < 0 ∨ 999 < xi ∨ yi < 0 ∨ 999 < yi) → ∀ τ, ScFr σ τ → (0 < R.2.2.2.1 → ∀ v, v < 100 → τ.1 57 v = iz (fewS R s v)) → ∀ j v (b : Int), v + j = R.2.2.2.1 → (b = -1 ∨ (0 ≤ b ∧ b < R.2.2.2.1)) → qkG (fewS R s) xi yi R.2.2.2.1 0 (-1) = qkG (fewS R s) xi yi j v b → ∀ x5 x6 x7, V mX12_quick (D + 5) 38 [some (.ref 44), some (.int (iz xi)), some (.int (iz yi)), some (.int (iz b)), some (.int (nI v)), x5, x6, x7] [] τ Q := by
    intro hxx τ f1 f3 j
    have h32 := (hP.sc f1).1.2.2.2.1
    have hq := hQ τ f1
    rw [if_neg hxx] at hq
    induction j with
    | zero =>
      intro v b hvc hb he x5 x6 x7
      have he2 : qkG (fewS R s) xi yi R.2.2.2.1 0 (-1) = b := he
      rw [he2] at hq
      refine v_iload dX12_quick_38 rfl ?_
      refine v_aload_n dX12_quick_40 rfl ?_
      refine v_getI dX12_quick_41 fl_RX12_65 rfl ?_
      rw [h32]
      refine v_icmp_ge dX12_quick_44 (fun zc44 => ?_) (fun zc44 => ?_)
      · refine v_iload_n dX12_quick_177 rfl ?_
        refine v_ireturn dX12_quick_178 rfl (rfl) ?_
        exact hq
      · exact absurd (nI_le (by omega) (by omega)) zc44
    | succ j ih =>
      intro v b hvc hb he x5 x6 x7
      obtain ⟨r1, r2⟩ := few_rng (v := v) hv (by omega) hm hs
      obtain ⟨q1, q2⟩ := iab_rng (v := v) (p := xi) (by omega) (by omega) (by omega)
      have he2 : qkG (fewS R s) xi yi R.2.2.2.1 0 (-1) = qkG (fewS R s) xi yi j (v + 1) (if iab (v - xi) ≤ yi ∧ fewS R s v ≠ -1 ∧ (b = -1 ∨ fewS R s v < fewS R s b.toNat ∨ (fewS R s v = fewS R s b.toNat ∧ iab (v - xi) < iab (b - xi))) then v else b) := he
      have hb3 : b ≠ -1 → 0 ≤ iab (b - xi) ∧ iab (b - xi) ≤ 1099 := fun h => by unfold iab; split <;> omega
      have hbn : b ≠ -1 → vp_in (iz b) 100 ∧ τ.1 57 (iz b).toNatClampNeg = iz (fewS R s b.toNat) ∧ -1 ≤ fewS R s b.toNat ∧ fewS R s b.toNat < 60201 := fun h => by
        have hbb : iz b = nI b.toNat := iz_toN (by omega)
        refine ⟨iz_in (by omega) (by omega) (by omega), ?_, few_rng hv (by omega) hm hs⟩
        rw [hbb, nI_clamp (by omega), f3 (by omega) _ (by omega)]
      have fin : ∀ (c : Int), c = (if iab (v - xi) ≤ yi ∧ fewS R s v ≠ -1 ∧ (b = -1 ∨ fewS R s v < fewS R s b.toNat ∨ (fewS R s v = fewS R s b.toNat ∧ iab (v - xi) < iab (b - xi))) then (v : Int) else b) → ∀ y5 y6 y7, V mX12_quick (D + 5) 171 [some (.ref 44), some (.int (iz xi)), some (.int (iz yi)), some (.int (iz c)), some (.int (nI v)), y5, y6, y7] [] τ Q := by
        intro c hc y5 y6 y7
        have hcb : c = -1 ∨ (0 ≤ c ∧ c < R.2.2.2.1) := by
          rw [hc]
          split
          · exact Or.inr ⟨by omega, by omega⟩
          · exact hb
        have hnx := ih (v + 1) c (by omega) hcb (by rw [he2, hc])
        refine v_iinc dX12_quick_171 rfl (Nat.le_of_ble_eq_true rfl) rfl ?_
        refine v_goto dX12_quick_174 ?_
        rw [nI_1]
        exact hnx _ _ _
      have yes : (iab (v - xi) ≤ yi ∧ fewS R s v ≠ -1 ∧ (b = -1 ∨ fewS R s v < fewS R s b.toNat ∨ (fewS R s v = fewS R s b.toNat ∧ iab (v - xi) < iab (b - xi)))) → ∀ a5 a6 y7, V mX12_quick (D + 5) 152 [some (.ref 44), some (.int (iz xi)), some (.int (iz yi)), some (.int (iz b)), some (.int (nI v)), some (.int a5), some (.int a6), y7] [] τ Q := by
        intro hh a5 a6 y7
        have hn := fin v (by rw [if_pos hh])
        rw [← iz_nI] at hn
        refine v_iconst dX12_quick_152 ?_
        refine v_goto dX12_quick_153 ?_
        refine v_istore dX12_quick_157 (Nat.le_of_ble_eq_true rfl) rfl ?_
        refine v_iload dX12_quick_159 rfl ?_
        refine v_if_eq dX12_quick_161 (fun zc161 => ?_) (fun zc161 => ?_)
        · exact absurd zc161 (by decide)
        · refine v_iload dX12_quick_164 rfl ?_
          refine v_goto dX12_quick_166 ?_
          refine v_istore_n dX12_quick_170 (Nat.le_of_ble_eq_true rfl) rfl ?_
          exact hn _ _ _
      have no : ¬ (iab (v - xi) ≤ yi ∧ fewS R s v ≠ -1 ∧ (b = -1 ∨ fewS R s v < fewS R s b.toNat ∨ (fewS R s v = fewS R s b.toNat ∧ iab (v - xi) < iab (b - xi)))) → ∀ a5 a6 y7, V mX12_quick (D + 5) 156 [some (.ref 44), some (.int (iz xi)), some (.int (iz yi)), some (.int (iz b)), some (.int (nI v)), some (.int a5), some (.int a6), y7] [] τ Q := by
        intro hh a5 a6 y7
        have hn := fin b (by rw [if_neg hh])
        refine v_iconst dX12_quick_156 ?_
        refine v_istore dX12_quick_157 (Nat.le_of_ble_eq_true rfl) rfl ?_
        refine v_iload dX12_quick_159 rfl ?_
        refine v_if_eq dX12_quick_161 (fun zc161 => ?_) (fun zc161 => ?_)
        · refine v_iload_n dX12_quick_169 rfl ?_
          refine v_istore_n dX12_quick_170 (Nat.le_of_ble_eq_true rfl) rfl ?_
          exact hn _ _ _
        · exact absurd rfl zc161
      have body : ∀ a5 a6 : Int32, a5 = iz (iab (v - xi)) → (b ≠ -1 → a6 = iz (iab (b - xi))) → ∀ y7, V mX12_quick (D + 5) 91 [some (.ref 44), some (.int (iz xi)), some (.int (iz yi)), some (.int (iz b)), some (.int (nI v)), some (.int a5), some (.int a6), y7] [] τ Q := by
        intro a5 a6 h5 h6 y7
        subst h5
        refine v_iload dX12_quick_91 rfl ?_
        refine v_iload_n dX12_quick_93 rfl ?_
        refine v_icmp_gt dX12_quick_94 (fun zc94 => ?_) (fun zc94 => ?_)
        · rw [iz_lt (by omega) (by omega) (by omega) (by omega)] at zc94
          refine fin b ?_ _ _ _
          first | rw [if_neg (fun h => by omega)] | rw [if_neg (fun h => h.2.1 zc105)]
        · rw [iz_lt (by omega) (by omega) (by omega) (by omega)] at zc94
          refine v_aload_n dX12_quick_97 rfl ?_
          refine v_getR (q := 57) dX12_quick_98 fl_RX12_56 rfl rfl ?_
          refine v_iload dX12_quick_101 rfl ?_
          refine v_iaload dX12_quick_103 rfl (by exact vp_in_nI (by omega) (by omega)) ?_
          rw [nI_clamp (by omega), f3 (by omega) v (by omega)]
          refine v_iconst dX12_quick_104 ?_
          refine v_icmp_eq dX12_quick_105 (fun zc105 => ?_) (fun zc105 => ?_)
          · rw [show (-1 : Int32) = iz (-1) from rfl, iz_eq (by omega) (by omega) (by omega) (by omega)] at zc105
            refine fin b ?_ _ _ _
            first | rw [if_neg (fun h => by omega)] | rw [if_neg (fun h => h.2.1 zc105)]
          · rw [show (-1 : Int32) = iz (-1) from rfl, iz_eq (by omega) (by omega) (by omega) (by omega)] at zc105
            refine v_iload_n dX12_quick_108 rfl ?_
            refine v_iconst dX12_quick_109 ?_
            refine v_icmp_eq dX12_quick_110 (fun zc110 => ?_) (fun zc110 => ?_)
            · rw [show (-1 : Int32) = iz (-1) from rfl, iz_eq (by omega) (by omega) (by omega) (by omega)] at zc110
              refine yes ⟨by omega, zc105, ?_⟩ _ _ _
              first | exact Or.inl zc110 | exact Or.inr (Or.inl zc126) | exact Or.inr (Or.inr ⟨zc142, by omega⟩)
            · rw [show (-1 : Int32) = iz (-1) from rfl, iz_eq (by omega) (by omega) (by omega) (by omega)] at zc110
              obtain ⟨w1, w2, w3, w4⟩ := hbn zc110
              have h7 := h6 zc110
              have h8 := hb3 zc110
              subst h7
              refine v_aload_n dX12_quick_113 rfl ?_
              refine v_getR (q := 57) dX12_quick_114 fl_RX12_56 rfl rfl ?_
              refine v_iload dX12_quick_117 rfl ?_
              refine v_iaload dX12_quick_119 rfl (by exact vp_in_nI (by omega) (by omega)) ?_
              rw [nI_clamp (by omega), f3 (by omega) v (by omega)]
              refine v_aload_n dX12_quick_120 rfl ?_
              refine v_getR (q := 57) dX12_quick_121 fl_RX12_56 rfl rfl ?_
              refine v_iload_n dX12_quick_124 rfl ?_
              refine v_iaload dX12_quick_125 rfl (by exact w1) ?_
              rw [w2]
              refine v_icmp_lt dX12_quick_126 (fun zc126 => ?_) (fun zc126 => ?_)
              · rw [iz_lt (by omega) (by omega) (by omega) (by omega)] at zc126
                refine yes ⟨by omega, zc105, ?_⟩ _ _ _
                first | exact Or.inl zc110 | exact Or.inr (Or.inl zc126) | exact Or.inr (Or.inr ⟨zc142, by omega⟩)
              · rw [iz_lt (by omega) (by omega) (by omega) (by omega)] at zc126
                refine v_aload_n dX12_quick_129 rfl ?_
                refine v_getR (q := 57) dX12_quick_130 fl_RX12_56 rfl rfl ?_
                refine v_iload dX12_quick_133 rfl ?_
                refine v_iaload dX12_quick_135 rfl (by exact vp_in_nI (by omega) (by omega)) ?_
                rw [nI_clamp (by omega), f3 (by omega) v (by omega)]
                refine v_aload_n dX12_quick_136 rfl ?_
                refine v_getR (q := 57) dX12_quick_137 fl_RX12_56 rfl rfl ?_
                refine v_iload_n dX12_quick_140 rfl ?_
                refine v_iaload dX12_quick_141 rfl (by exact w1) ?_
                rw [w2]
                refine v_icmp_ne dX12_quick_142 (fun zc142 => ?_) (fun zc142 => ?_)
                · rw [iz_eq (by omega) (by omega) (by omega) (by omega)] at zc142
                  exact no (fun h => by omega) _ _ _
                · rw [iz_eq (by omega) (by omega) (by omega) (by omega)] at zc142
                  refine v_iload dX12_quick_145 rfl ?_
                  refine v_iload dX12_quick_147 rfl ?_
                  refine v_icmp_ge dX12_quick_149 (fun zc149 => ?_) (fun zc149 => ?_)
                  · rw [iz_le (by omega) (by omega) (by omega) (by omega)] at zc149
                    exact no (fun h => by omega) _ _ _
                  · rw [iz_le (by omega) (by omega) (by omega) (by omega)] at zc149
                    refine yes ⟨by omega, zc105, ?_⟩ _ _ _
                    first | exact Or.inl zc110 | exact Or.inr (Or.inl zc126) | exact Or.inr (Or.inr ⟨zc142, by omega⟩)
      refine v_iload dX12_quick_38 rfl ?_
      refine v_aload_n dX12_quick_40 rfl ?_
      refine v_getI dX12_quick_41 fl_RX12_65 rfl ?_
      rw [h32]
      refine v_icmp_ge dX12_quick_44 (fun zc44 => ?_) (fun zc44 => ?_)
      · try simp (disch := omega) only [iz_lit, iz_nI, iz_neg, iz_add, iz_sub, iz_mul, iz_lt, iz_le, iz_eq] at zc44
        exfalso; omega
      · try simp (disch := omega) only [iz_lit, iz_nI, iz_neg, iz_add, iz_sub, iz_mul, iz_lt, iz_le, iz_eq] at zc44
        refine v_iload dX12_quick_47 rfl ?_
        refine v_iload_n dX12_quick_49 rfl ?_
        refine v_icmp_ge dX12_quick_50 (fun zc50 => ?_) (fun zc50 => ?_)
        · try simp (disch := omega) only [iz_lit, iz_nI, iz_neg, iz_add, iz_sub, iz_mul, iz_lt, iz_le, iz_eq] at zc50
          refine v_iload dX12_quick_60 rfl ?_
          refine v_iload_n dX12_quick_62 rfl ?_
          refine v_isub dX12_quick_63 ?_
          refine v_istore dX12_quick_64 (Nat.le_of_ble_eq_true rfl) rfl ?_
          refine v_iload_n dX12_quick_66 rfl ?_
          refine v_iconst dX12_quick_67 ?_
          refine v_icmp_ne dX12_quick_68 (fun zc68 => ?_) (fun zc68 => ?_)
          · try simp (disch := omega) only [iz_lit, iz_nI, iz_neg, iz_add, iz_sub, iz_mul, iz_lt, iz_le, iz_eq] at zc68
            refine v_iload_n dX12_quick_75 rfl ?_
            refine v_iload_n dX12_quick_76 rfl ?_
            refine v_icmp_ge dX12_quick_77 (fun zc77 => ?_) (fun zc77 => ?_)
            · try simp (disch := omega) only [iz_lit, iz_nI, iz_neg, iz_add, iz_sub, iz_mul, iz_lt, iz_le, iz_eq] at zc77
              refine v_iload_n dX12_quick_86 rfl ?_
              refine v_iload_n dX12_quick_87 rfl ?_
              refine v_isub dX12_quick_88 ?_
              refine v_istore dX12_quick_89 (Nat.le_of_ble_eq_true rfl) rfl ?_
              refine body _ _ ?_ ?_ _
              · rw [iz_nI, iz_sub]
                congr 1
                unfold iab
                split <;> omega
              · intro hnb
                first | (exfalso; omega) | (rw [iz_sub]; congr 1; unfold iab; split <;> omega)
            · try simp (disch := omega) only [iz_lit, iz_nI, iz_neg, iz_add, iz_sub, iz_mul, iz_lt, iz_le, iz_eq] at zc77
              refine v_iload_n dX12_quick_80 rfl ?_
              refine v_iload_n dX12_quick_81 rfl ?_
              refine v_isub dX12_quick_82 ?_
              refine v_goto dX12_quick_83 ?_
              refine v_istore dX12_quick_89 (Nat.le_of_ble_eq_true rfl) rfl ?_
              refine body _ _ ?_ ?_ _
              · rw [iz_nI, iz_sub]
                congr 1
                unfold iab
                split <;> omega
              · intro hnb
                first | (exfalso; omega) | (rw [iz_sub]; congr 1; unfold iab; split <;> omega)
          · try simp (disch := omega) only [iz_lit, iz_nI, iz_neg, iz_add, iz_sub, iz_mul, iz_lt, iz_le, iz_eq] at zc68
            refine v_iconst dX12_quick_71 ?_
            refine v_goto dX12_quick_72 ?_
            refine v_istore dX12_quick_89 (Nat.le_of_ble_eq_true rfl) rfl ?_
            refine body _ _ ?_ ?_ _
            · rw [iz_nI, iz_sub]
              congr 1
              unfold iab
              split <;> omega
            · intro hnb
              first | (exfalso; omega) | (rw [iz_sub]; congr 1; unfold iab; split <;> omega)
        · try simp (disch := omega) only [iz_lit, iz_nI, iz_neg, iz_add, iz_sub, iz_mul, iz_lt, iz_le, iz_eq] at zc50
          refine v_iload_n dX12_quick_53 rfl ?_
          refine v_iload dX12_quick_54 rfl ?_
          refine v_isub dX12_quick_56 ?_
          refine v_goto dX12_quick_57 ?_
          refine v_istore dX12_quick_64 (Nat.le_of_ble_eq_true rfl) rfl ?_
          refine v_iload_n dX12_quick_66 rfl ?_
          refine v_iconst dX12_quick_67 ?_
          refine v_icmp_ne dX12_quick_68 (fun zc68 => ?_) (fun zc68 => ?_)
          · try simp (disch := omega) only [iz_lit, iz_nI, iz_neg, iz_add, iz_sub, iz_mul, iz_lt, iz_le, iz_eq] at zc68
            refine v_iload_n dX12_quick_75 rfl ?_
            refine v_iload_n dX12_quick_76 rfl ?_
            refine v_icmp_ge dX12_quick_77 (fun zc77 => ?_) (fun zc77 => ?_)
            · try simp (disch := omega) only [iz_lit, iz_nI, iz_neg, iz_add, iz_sub, iz_mul, iz_lt, iz_le, iz_eq] at zc77
              refine v_iload_n dX12_quick_86 rfl ?_
              refine v_iload_n dX12_quick_87 rfl ?_
              refine v_isub dX12_quick_88 ?_
              refine v_istore dX12_quick_89 (Nat.le_of_ble_eq_true rfl) rfl ?_
              refine body _ _ ?_ ?_ _
              · rw [iz_nI, iz_sub]
                congr 1
                unfold iab
                split <;> omega
              · intro hnb
                first | (exfalso; omega) | (rw [iz_sub]; congr 1; unfold iab; split <;> omega)
            · try simp (disch := omega) only [iz_lit, iz_nI, iz_neg, iz_add, iz_sub, iz_mul, iz_lt, iz_le, iz_eq] at zc77
              refine v_iload_n dX12_quick_80 rfl ?_
              refine v_iload_n dX12_quick_81 rfl ?_
              refine v_isub dX12_quick_82 ?_
              refine v_goto dX12_quick_83 ?_
              refine v_istore dX12_quick_89 (Nat.le_of_ble_eq_true rfl) rfl ?_
              refine body _ _ ?_ ?_ _
              · rw [iz_nI, iz_sub]
                congr 1
                unfold iab
                split <;> omega
              · intro hnb
                first | (exfalso; omega) | (rw [iz_sub]; congr 1; unfold iab; split <;> omega)
          · try simp (disch := omega) only [iz_lit, iz_nI, iz_neg, iz_add, iz_sub, iz_mul, iz_lt, iz_le, iz_eq] at zc68
            refine v_iconst dX12_quick_71 ?_
            refine v_goto dX12_quick_72 ?_
            refine v_istore dX12_quick_89 (Nat.le_of_ble_eq_true rfl) rfl ?_
            refine body _ _ ?_ ?_ _
            · rw [iz_nI, iz_sub]
              congr 1
              unfold iab
              split <;> omega
            · intro hnb
              first | (exfalso; omega) | (rw [iz_sub]; congr 1; unfold iab; split <;> omega)
  refine ok_enter rfl (Nat.le_of_ble_eq_true rfl) ?_
  refine v_iload_n dX12_quick_0 rfl ?_
  refine v_iconst dX12_quick_1 ?_
  refine v_sipush dX12_quick_2 ?_
  refine v_callS3 dX12_quick_5 ms_RX12_68 (Nat.le_of_ble_eq_true rfl) ?_
  refine ok_in ?_
  rw [iz_T0, show ((999 : Int32)).toInt = 999 from rfl, iz_toInt (by omega) (by omega)]
  show V _ _ _ _ (_ :: _) _ _
  refine v_if_eq dX12_quick_8 (fun zc8 => ?_) (fun zc8 => ?_)
  · have hxx : xi < 0 ∨ 999 < xi := by
      by_cases h : 0 ≤ xi ∧ xi ≤ 999
      · rw [if_pos h] at zc8; exact absurd zc8 (by decide)
      · omega
    refine v_ldc dX12_quick_22 cn_RX12_72 ?_
    refine v_ireturn dX12_quick_24 rfl (rfl) ?_
    have hq := hQ σ ScFr.rf
    rw [if_pos (by omega)] at hq
    exact hq
  · have hxx : 0 ≤ xi ∧ xi ≤ 999 := by
      by_cases h : 0 ≤ xi ∧ xi ≤ 999
      · exact h
      · rw [if_neg h] at zc8; exact absurd rfl zc8
    refine v_iload_n dX12_quick_11 rfl ?_
    refine v_iconst dX12_quick_12 ?_
    refine v_sipush dX12_quick_13 ?_
    refine v_callS3 dX12_quick_16 ms_RX12_68 (Nat.le_of_ble_eq_true rfl) ?_
    refine ok_in ?_
    rw [iz_T0, show ((999 : Int32)).toInt = 999 from rfl, iz_toInt (by omega) (by omega)]
    show V _ _ _ _ (_ :: _) _ _
    refine v_if_ne dX12_quick_19 (fun zc19 => ?_) (fun zc19 => ?_)
    · have hyy : 0 ≤ yi ∧ yi ≤ 999 := by
        by_cases h : 0 ≤ yi ∧ yi ≤ 999
        · exact h
        · rw [if_neg h] at zc19; exact absurd rfl zc19
      refine v_aload_n dX12_quick_25 rfl ?_
      refine v_aload_n dX12_quick_26 rfl ?_
      refine v_getI dX12_quick_27 fl_RX12_182 rfl ?_
      rw [h4]
      refine v_callV1 dX12_quick_30 mv_RX12_246 rfl rfl (Nat.le_of_ble_eq_true rfl) ?_
      refine ok_layA hP (fun τ f1 f2 => ?_)
      show V _ _ _ _ _ _ _
      refine v_iconst dX12_quick_33 ?_
      refine v_istore_n dX12_quick_34 (Nat.le_of_ble_eq_true rfl) rfl ?_
      refine v_iconst dX12_quick_35 ?_
      refine v_istore dX12_quick_36 (Nat.le_of_ble_eq_true rfl) rfl ?_
      exact loop (by omega) τ f1 (fun h => (f2 h).2.2) R.2.2.2.1 0 (-1) (by omega) (Or.inl rfl) rfl _ _ _
    · have hyy : yi < 0 ∨ 999 < yi := by
        by_cases h : 0 ≤ yi ∧ yi ≤ 999
        · rw [if_pos h] at zc19; exact absurd zc19 (by decide)
        · omega
      refine v_ldc dX12_quick_22 cn_RX12_72 ?_
      refine v_ireturn dX12_quick_24 rfl (rfl) ?_
      have hq := hQ σ ScFr.rf
      rw [if_pos (by omega)] at hq
      exact hq
end MF
