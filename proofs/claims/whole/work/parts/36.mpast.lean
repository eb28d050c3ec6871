/-! ===== what can have been struck: the reference ===== -/
def cF (m : Nat) (L : List RS) (w c : Nat) : Nat := (L.filter (fun x => decide (mc m x.1 = c ∧ x.2.testBit w = false))).length
def cS (m : Nat) (L : List RS) (v w c : Nat) : Nat := (L.filter (fun x => decide ((x.1.1 = v ∧ x.2.testBit w = false) ∧ mc m x.1 < c))).length
def rowS (R : Rk) (s : St) (n v w : Nat) : Nat := ((stkL R s n).filter (fun x => decide (x.1.1 = v ∧ x.2.testBit w = false))).length
section MPa
variable {D : Nat} {σ τ : Wd} {Q : Option Value → Wd → Prop} {R : Rk} {s : St} {r n : Nat}
theorem bit_or {a k w : Nat} : (a ||| 2 ^ k).testBit w = false ↔ a.testBit w = false ∧ k ≠ w := by
  rw [Nat.testBit_or, Nat.testBit_two_pow]
  simp
theorem cS_s {m c v w : Nat} {L : List RS} (hm : 0 < m) (hL : ∀ x ∈ L, vS m x.1) : cS m L v w (c + 1) = cS m L v w c + (if (mdec m c).1 = v then cF m L w c else 0) := by
  have hd : ∀ x ∈ L, (((x.1.1 = v ∧ x.2.testBit w = false) ∧ mc m x.1 < c + 1) ↔ ((x.1.1 = v ∧ x.2.testBit w = false) ∧ mc m x.1 < c) ∨ ((mdec m c).1 = v ∧ (mc m x.1 = c ∧ x.2.testBit w = false))) ∧ ¬ (((x.1.1 = v ∧ x.2.testBit w = false) ∧ mc m x.1 < c) ∧ ((mdec m c).1 = v ∧ (mc m x.1 = c ∧ x.2.testBit w = false))) := by
    intro x hx
    have e := mdec_mc hm (hL x hx).w
    refine ⟨⟨?_, ?_⟩, ?_⟩
    · rintro ⟨⟨h1, h2⟩, h3⟩
      by_cases h : mc m x.1 = c
      · rw [h] at e
        exact Or.inr ⟨by rw [e]; exact h1, h, h2⟩
      · exact Or.inl ⟨⟨h1, h2⟩, by omega⟩
    · rintro (⟨h1, h2⟩ | ⟨h1, h2, h3⟩)
      · exact ⟨h1, by omega⟩
      · rw [h2] at e
        rw [e] at h1
        exact ⟨⟨h1, h3⟩, by omega⟩
    · rintro ⟨⟨h1, h2⟩, h3, h4, h5⟩
      omega
  unfold cS
  rw [fl_len _ _ _ L hd]
  congr 1
  by_cases h : (mdec m c).1 = v
  · rw [if_pos h]
    unfold cF
    rw [fl_c (fun x hx => ⟨fun h1 => h1.2, fun h1 => ⟨h, h1⟩⟩)]
  · rw [if_neg h, fl_e (fun x hx h1 => h h1.1)]
    rfl
theorem cF_le {m c w : Nat} {L : List RS} : cF m L w c ≤ L.length := List.length_filter_le _ _
theorem cS_le {m c v w : Nat} {L : List RS} : cS m L v w c ≤ L.length := List.length_filter_le _ _
theorem gfr_sc (h : GFr σ τ) (hS : RepS σ s) : ScFr σ (putS τ s) := by
  refine ⟨fun a b hh => ?_, h.2⟩
  by_cases h44 : a = 44 ∧ 21 ≤ b ∧ b ≤ 24
  · obtain ⟨rfl, q1, q2⟩ := h44
    obtain ⟨p1, p2, p3, p4⟩ := putS_rep (σ := τ) (s := s)
    obtain ⟨r1, r2, r3, r4⟩ := hS
    rcases (show b = 21 ∨ b = 22 ∨ b = 23 ∨ b = 24 by omega) with rfl | rfl | rfl | rfl
    · rw [p1, r1]
    · rw [p2, r2]
    · rw [p3, r3]
    · rw [p4, r4]
  · rw [putS_o h44]
    exact h.1 a b (by omega)
theorem ok_rowsTo {N v w : Nat} {w32 : Int32} (hP : MP σ R s) (hm : 0 < R.2.2.2.1) (hv2 : v < R.2.2.2.1) (hN : N ≤ 8) (hw : ∀ k, k < R.2.2.2.2.length → (nI k = w32 ↔ k = w)) (hQ : ∀ τ, ScFr σ τ → Q (some (.int (nI (rowS R s N v w)))) τ) : Ok (D + 5) mX12_rowsTo [.ref 44, .int (nI N), .int (nI v), .int w32] σ Q := by
  obtain ⟨hM, h4, hv, hS, hs⟩ := id hP
  have hm2 := hv.m100
  have hnk := hv.n9
  have h8 := mm_le hm2
  have hMt : ∀ τ, GFr σ τ → RepM τ R := fun τ h => hM.kept (fun b hb => h.1 _ _ (by omega)) (fun b => h.1 _ _ (by omega))
  have h4t : ∀ τ, GFr σ τ → τ.1 44 4 = nI R.2.2.2.2.length := fun τ h => by rw [h.1 _ _ (by omega)]; exact h4
  have hlen : ∀ i, i ≤ 8 → (stkL R s i).length ≤ 16777216 := fun i hi => Nat.le_trans (stkL_len hnk i) (Nat.pow_le_pow_right (n := 8) (by decide) hi)
  have hLv : ∀ i, ∀ x ∈ stkL R s i, vS R.2.2.2.1 x.1 := fun i x hx => (stkL_v hv hs i x hx).1
  have hnow := mc_lt hm hs.w
  -- the sum
  have sum : ∀ j c τ, c + j = 8 * R.2.2.2.1 * R.2.2.2.1 → GFr σ τ → (∀ c', c' < 8 * R.2.2.2.1 * R.2.2.2.1 → τ.1 53 c' = nI (cF R.2.2.2.1 (stkL R s N) w c')) → ∀ x7, V mX12_rowsTo (D + 5) 198 [some (.ref 44), some (.int (nI N)), some (.int (nI v)), some (.int w32), some (.int (nI (mc R.2.2.2.1 s))), some (.int (nI (cS R.2.2.2.1 (stkL R s N) v w c))), some (.int (nI c)), x7] [] τ Q := by
    intro j
    induction j with
    | zero =>
      intro c τ hc hF g1 x7
      have h33 := (hMt τ hF).2.2.2.1
      have hr : cS R.2.2.2.1 (stkL R s N) v w c = rowS R s N v w := by
        unfold cS rowS
        rw [fl_c (fun x hx => ⟨fun h => h.1, fun h => ⟨h, by have := mc_lt hm (hLv N x hx).w; omega⟩⟩)]
      have ha := hQ _ (gfr_sc hF hS)
      refine v_iload dX12_rowsTo_198 rfl ?_
      refine v_aload_n dX12_rowsTo_200 rfl ?_
      refine v_callV0 dX12_rowsTo_201 mv_RX12_233 rfl rfl (Nat.le_of_ble_eq_true rfl) ?_
      refine ok_states h33 ?_
      show V _ _ _ _ (_ :: _) _ _
      refine v_icmp_ge dX12_rowsTo_204 (fun zc204 => ?_) (fun zc204 => ?_)
      · refine v_aload_n dX12_rowsTo_239 rfl ?_
        refine v_iload dX12_rowsTo_240 rfl ?_
        refine v_callV1 dX12_rowsTo_242 mv_RX12_223 rfl rfl (Nat.le_of_ble_eq_true rfl) ?_
        refine ok_setState h33 hm hm2 (by omega) ?_
        rw [mdec_mc hm hs.w]
        show V _ _ _ _ _ _ _
        refine v_iload dX12_rowsTo_245 rfl ?_
        refine v_ireturn dX12_rowsTo_247 rfl (rfl) ?_
        rw [hr]
        exact ha
      · exact absurd (nI_le (by omega) (by omega)) zc204
    | succ j ih =>
      intro c τ hc hF g1 x7
      have h33 := (hMt τ hF).2.2.2.1
      have hw2 := mdec_w (m := R.2.2.2.1) hm (show c < _ by omega)
      have hsh := hw2.1
      have es := cS_s (c := c) (v := v) (w := w) hm (hLv N)
      have hgo := ih (c + 1) τ (by omega) hF g1
      rw [es] at hgo
      refine v_iload dX12_rowsTo_198 rfl ?_
      refine v_aload_n dX12_rowsTo_200 rfl ?_
      refine v_callV0 dX12_rowsTo_201 mv_RX12_233 rfl rfl (Nat.le_of_ble_eq_true rfl) ?_
      refine ok_states h33 ?_
      show V _ _ _ _ (_ :: _) _ _
      refine v_icmp_ge dX12_rowsTo_204 (fun zc204 => ?_) (fun zc204 => ?_)
      · exact absurd zc204 (nI_ge (by omega) (by omega))
      · refine v_iload dX12_rowsTo_207 rfl ?_
        refine v_aload_n dX12_rowsTo_209 rfl ?_
        refine v_iload dX12_rowsTo_210 rfl ?_
        refine v_callV1 dX12_rowsTo_212 mv_RX12_236 rfl rfl (Nat.le_of_ble_eq_true rfl) ?_
        refine ok_mshownIn h33 hm hm2 (by omega) ?_
        show V _ _ _ _ (_ :: _) _ _
        refine v_iload_n dX12_rowsTo_215 rfl ?_
        refine v_icmp_ne dX12_rowsTo_216 (fun zc216 => ?_) (fun zc216 => ?_)
        · rw [nI_eq (by omega) (by omega)] at zc216
          refine v_iconst dX12_rowsTo_229 ?_
          refine v_iadd dX12_rowsTo_230 ?_
          refine v_istore dX12_rowsTo_231 (Nat.le_of_ble_eq_true rfl) rfl ?_
          refine v_iinc dX12_rowsTo_233 rfl (Nat.le_of_ble_eq_true rfl) rfl ?_
          refine v_goto dX12_rowsTo_236 ?_
          rw [nI_1]
          first | (rw [if_pos zc216] at hgo; rw [nI_add]; exact hgo _) | (rw [if_neg zc216] at hgo; rw [show (0 : Int32) = nI 0 from rfl, nI_add]; exact hgo _)
        · rw [nI_eq (by omega) (by omega)] at zc216
          refine v_aload_n dX12_rowsTo_219 rfl ?_
          refine v_getR (q := 53) dX12_rowsTo_220 fl_RX12_44 rfl rfl ?_
          refine v_iload dX12_rowsTo_223 rfl ?_
          refine v_iaload dX12_rowsTo_225 rfl (by exact vp_in_nI (by omega) (by omega)) ?_
          rw [nI_clamp (by omega), g1 c (by omega)]
          refine v_goto dX12_rowsTo_226 ?_
          refine v_iadd dX12_rowsTo_230 ?_
          refine v_istore dX12_rowsTo_231 (Nat.le_of_ble_eq_true rfl) rfl ?_
          refine v_iinc dX12_rowsTo_233 rfl (Nat.le_of_ble_eq_true rfl) rfl ?_
          refine v_goto dX12_rowsTo_236 ?_
          rw [nI_1]
          first | (rw [if_pos zc216] at hgo; rw [nI_add]; exact hgo _) | (rw [if_neg zc216] at hgo; rw [show (0 : Int32) = nI 0 from rfl, nI_add]; exact hgo _)
  -- the keys of one state
  have keys : ∀ i c, i < N → c < 8 * R.2.2.2.1 * R.2.2.2.1 → (∀ τ x7, GFr σ τ → (∀ c', c' < 8 * R.2.2.2.1 * R.2.2.2.1 → τ.1 53 c' = nI (cF R.2.2.2.1 (stkL R s i) w c')) → (∀ c', c' < 8 * R.2.2.2.1 * R.2.2.2.1 → τ.1 54 c' = nI (grpC R (mc R.2.2.2.1) (fun x => mc R.2.2.2.1 x.1 = c' ∧ x.2.testBit w = false) (stkL R s i) (c + 1) 0).length) → V mX12_rowsTo (D + 5) 148 [some (.ref 44), some (.int (nI N)), some (.int (nI v)), some (.int w32), some (.int (nI (mc R.2.2.2.1 s))), some (.int (nI i)), some (.int (nI c)), some x7] [] τ Q) →
      ∀ j k τ, k + j = R.2.2.2.2.length → (k = 0 ∨ 0 < cF R.2.2.2.1 (stkL R s i) w c) → GFr σ τ → (∀ c', c' < 8 * R.2.2.2.1 * R.2.2.2.1 → τ.1 53 c' = nI (cF R.2.2.2.1 (stkL R s i) w c')) → (∀ c', c' < 8 * R.2.2.2.1 * R.2.2.2.1 → τ.1 54 c' = nI (grpC R (mc R.2.2.2.1) (fun x => mc R.2.2.2.1 x.1 = c' ∧ x.2.testBit w = false) (stkL R s i) c k).length) → V mX12_rowsTo (D + 5) 90 [some (.ref 44), some (.int (nI N)), some (.int (nI v)), some (.int w32), some (.int (nI (mc R.2.2.2.1 s))), some (.int (nI i)), some (.int (nI c)), some (.int (nI k))] [] τ Q := by
    intro i c hi hc next j
    have hli := hlen i (by omega)
    have hcl := cF_le (m := R.2.2.2.1) (L := stkL R s i) (w := w) (c := c)
    induction j with
    | zero =>
      intro k τ hk h0 hF g1 g2
      obtain rfl : k = R.2.2.2.2.length := by omega
      have h44 := h4t τ hF
      refine v_iload dX12_rowsTo_90 rfl ?_
      refine v_aload_n dX12_rowsTo_92 rfl ?_
      refine v_getI dX12_rowsTo_93 fl_RX12_182 rfl ?_
      rw [h44]
      refine v_icmp_ge dX12_rowsTo_96 (fun zc96 => ?_) (fun zc96 => ?_)
      · exact next τ _ hF g1 (fun c' hc' => by rw [g2 c' hc', grpC_K])
      · exact absurd (nI_le (Nat.le_refl _) (by omega)) zc96
    | succ j ih =>
      intro k τ hk h0 hF g1 g2
      have h44 := h4t τ hF
      have hMM := hMt τ hF
      have hk2 : k < R.2.2.2.2.length := by omega
      have hky : R.2.2.2.2[k]? = some (R.2.2.2.2.getD k (0, 0, 0, 0)) := by rw [List.getD, List.getElem?_eq_getElem hk2]; rfl
      have hw2 := mdec_w (m := R.2.2.2.1) hm hc
      have hnw := nx_w hv hk2 hw2
      have hcn := mc_lt hm hnw
      have hmd : ∀ x ∈ stkL R s i, mc R.2.2.2.1 x.1 = c → mdec R.2.2.2.1 c = x.1 := fun x hx h => by rw [← h]; exact mdec_mc hm (hLv i x hx).w
      have hto : ∀ y ∈ stkT R (stkL R s i), mc R.2.2.2.1 y.1.1 = c → y.2 = k → mc R.2.2.2.1 (stkN R y).1 = mc R.2.2.2.1 (nx R (mdec R.2.2.2.1 c) k) := fun y hy h1 h2 => by rw [hmd _ (mem_stkT.mp hy).1 h1, ← h2]; rfl
      have hadd : (grpC R (mc R.2.2.2.1) (fun x => mc R.2.2.2.1 x.1 = mc R.2.2.2.1 (nx R (mdec R.2.2.2.1 c) k) ∧ x.2.testBit w = false) (stkL R s i) c (k + 1)).length = (grpC R (mc R.2.2.2.1) (fun x => mc R.2.2.2.1 x.1 = mc R.2.2.2.1 (nx R (mdec R.2.2.2.1 c) k) ∧ x.2.testBit w = false) (stkL R s i) c k).length + if k = w then 0 else cF R.2.2.2.1 (stkL R s i) w c := by
        by_cases h : k = w
        · rw [if_pos h, grpC_ne (fun y hy h1 h2 h3 => by
            have h4 := h3.2
            unfold stkN at h4
            dsimp only at h4
            rw [bit_or] at h4
            exact h4.2 (by omega))]
          rfl
        · rw [if_neg h]
          have := (grpC_eq (R := R) (L := stkL R s i) (f := mc R.2.2.2.1) (p := c) (k := k) (c := fun x => mc R.2.2.2.1 x.1 = mc R.2.2.2.1 (nx R (mdec R.2.2.2.1 c) k) ∧ x.2.testBit w = false) (d := fun x => mc R.2.2.2.1 x.1 = c ∧ x.2.testBit w = false) hk2 (fun y hy h2 => by
            have e : (stkN R y).2.testBit w = false ↔ y.1.2.testBit w = false := by
              unfold stkN
              dsimp only
              rw [bit_or]
              exact ⟨fun q => q.1, fun q => ⟨q, by omega⟩⟩
            constructor
            · rintro ⟨q1, q2, q3⟩; exact ⟨q1, e.mp q3⟩
            · rintro ⟨q1, q2⟩; exact ⟨q1, hto y hy q1 h2, e.mpr q2⟩)).1
          rw [this, List.length_map, List.length_map]
          rfl
      have hstep : ∀ z : Int32, z = nI (if k = w then 0 else cF R.2.2.2.1 (stkL R s i) w c) → 0 < cF R.2.2.2.1 (stkL R s i) w c → V mX12_rowsTo (D + 5) 90 [some (.ref 44), some (.int (nI N)), some (.int (nI v)), some (.int w32), some (.int (nI (mc R.2.2.2.1 s))), some (.int (nI i)), some (.int (nI c)), some (.int (nI (k + 1)))] [] (setI (putS τ (nx R (mdec R.2.2.2.1 c) k)) 54 (mc R.2.2.2.1 (nx R (mdec R.2.2.2.1 c) k)) (nI (grpC R (mc R.2.2.2.1) (fun x => mc R.2.2.2.1 x.1 = mc R.2.2.2.1 (nx R (mdec R.2.2.2.1 c) k) ∧ x.2.testBit w = false) (stkL R s i) c k).length + z)) Q := by
        intro z hz h00
        subst hz
        rw [nI_add, ← hadd]
        refine ih (k + 1) _ (by omega) (Or.inr h00) (hF.putS.set (by omega)) (fun c' hc' => ?_) (fun c' hc' => ?_)
        · rw [setI_ne (by omega), putS_o (by omega)]; exact g1 c' hc'
        · by_cases h : c' = mc R.2.2.2.1 (nx R (mdec R.2.2.2.1 c) k)
          · rw [h, setI_same]
          · rw [setI_ne (by omega), putS_o (by omega), g2 c' hc', grpC_ne (fun y hy h1 h2 h3 => h (by rw [← h3.1]; exact hto y hy h1 h2))]
      refine v_iload dX12_rowsTo_90 rfl ?_
      refine v_aload_n dX12_rowsTo_92 rfl ?_
      refine v_getI dX12_rowsTo_93 fl_RX12_182 rfl ?_
      rw [h44]
      refine v_icmp_ge dX12_rowsTo_96 (fun zc96 => ?_) (fun zc96 => ?_)
      · exact absurd zc96 (nI_ge (by omega) (by omega))
      · refine v_aload_n dX12_rowsTo_99 rfl ?_
        refine v_getR (q := 53) dX12_rowsTo_100 fl_RX12_44 rfl rfl ?_
        refine v_iload dX12_rowsTo_103 rfl ?_
        refine v_iaload dX12_rowsTo_105 rfl (by exact vp_in_nI (by omega) (by omega)) ?_
        rw [nI_clamp (by omega), g1 c hc]
        refine v_if_le dX12_rowsTo_106 (fun zc106 => ?_) (fun zc106 => ?_)
        · rw [show (0 : Int32) = nI 0 from rfl, nI_leI (by omega) (by omega)] at zc106
          have h00 : cF R.2.2.2.1 (stkL R s i) w c = 0 := by omega
          have hk0 : k = 0 := by omega
          subst hk0
          refine next τ _ hF g1 (fun c' hc' => by
            rw [g2 c' hc', grpC_skip (fun y hy h1 h3 => ?_)]
            have hy2 := (mem_stkT.mp hy).1
            have h4 := h3.2
            unfold stkN at h4
            dsimp only at h4
            rw [bit_or] at h4
            unfold cF at h00
            exact (List.filter_eq_nil_iff.mp (List.length_eq_zero_iff.mp h00) y.1 hy2) (by simpa using ⟨h1, h4.1⟩))
        · rw [show (0 : Int32) = nI 0 from rfl, nI_leI (by omega) (by omega)] at zc106
          refine v_aload_n dX12_rowsTo_109 rfl ?_
          refine v_getR (q := 54) dX12_rowsTo_110 fl_RX12_47 rfl rfl ?_
          refine v_aload_n dX12_rowsTo_113 rfl ?_
          refine v_iload dX12_rowsTo_114 rfl ?_
          refine v_iload dX12_rowsTo_116 rfl ?_
          refine v_callV2 dX12_rowsTo_118 mv_RX12_239 rfl rfl (Nat.le_of_ble_eq_true rfl) ?_
          refine ok_behind hMM (show 8 ≤ 9 by decide) hv hky hc ?_
          rw [show rk_str R (mdec R.2.2.2.1 c) (R.2.2.2.2.getD k (0, 0, 0, 0)) = nx R (mdec R.2.2.2.1 c) k from rfl]
          show V _ _ _ _ (_ :: _) _ _
          refine v_dup2 dX12_rowsTo_121 rfl rfl ?_
          refine v_iaload dX12_rowsTo_122 rfl (by exact vp_in_nI (by omega) (by omega)) ?_
          rw [nI_clamp (by omega), putS_o (by omega), g2 _ hcn]
          refine v_iload dX12_rowsTo_123 rfl ?_
          refine v_iload_n dX12_rowsTo_125 rfl ?_
          refine v_icmp_ne dX12_rowsTo_126 (fun zc126 => ?_) (fun zc126 => ?_)
          · refine v_aload_n dX12_rowsTo_133 rfl ?_
            refine v_getR (q := 53) dX12_rowsTo_134 fl_RX12_44 rfl rfl ?_
            refine v_iload dX12_rowsTo_137 rfl ?_
            refine v_iaload dX12_rowsTo_139 rfl (by exact vp_in_nI (by omega) (by omega)) ?_
            rw [nI_clamp (by omega), putS_o (by omega), g1 c hc]
            refine v_iadd dX12_rowsTo_140 ?_
            refine v_iastore dX12_rowsTo_141 rfl (by exact vp_in_nI (by omega) (by omega)) ?_
            rw [nI_clamp (by omega)]
            refine v_iinc dX12_rowsTo_142 rfl (Nat.le_of_ble_eq_true rfl) rfl ?_
            refine v_goto dX12_rowsTo_145 ?_
            rw [nI_1]
            first | (exact hstep _ (by rw [if_pos ((hw k hk2).mp zc126)]; rfl) (by omega)) | (exact hstep _ (by rw [if_neg (fun h => zc126 ((hw k hk2).mpr h))]) (by omega))
          · refine v_iconst dX12_rowsTo_129 ?_
            refine v_goto dX12_rowsTo_130 ?_
            refine v_iadd dX12_rowsTo_140 ?_
            refine v_iastore dX12_rowsTo_141 rfl (by exact vp_in_nI (by omega) (by omega)) ?_
            rw [nI_clamp (by omega)]
            refine v_iinc dX12_rowsTo_142 rfl (Nat.le_of_ble_eq_true rfl) rfl ?_
            refine v_goto dX12_rowsTo_145 ?_
            rw [nI_1]
            first | (exact hstep _ (by rw [if_pos ((hw k hk2).mp zc126)]; rfl) (by omega)) | (exact hstep _ (by rw [if_neg (fun h => zc126 ((hw k hk2).mpr h))]) (by omega))
  -- the states of one stroke
  have states : ∀ i, i < N → (∀ τ x6 x7, GFr σ τ → (∀ c', c' < 8 * R.2.2.2.1 * R.2.2.2.1 → τ.1 54 c' = nI (cF R.2.2.2.1 (stkL R s (i + 1)) w c')) → V mX12_rowsTo (D + 5) 154 [some (.ref 44), some (.int (nI N)), some (.int (nI v)), some (.int w32), some (.int (nI (mc R.2.2.2.1 s))), some (.int (nI i)), some x6, x7] [] τ Q) →
      ∀ j c τ, c + j = 8 * R.2.2.2.1 * R.2.2.2.1 → GFr σ τ → (∀ c', c' < 8 * R.2.2.2.1 * R.2.2.2.1 → τ.1 53 c' = nI (cF R.2.2.2.1 (stkL R s i) w c')) → (∀ c', c' < 8 * R.2.2.2.1 * R.2.2.2.1 → τ.1 54 c' = nI (grpC R (mc R.2.2.2.1) (fun x => mc R.2.2.2.1 x.1 = c' ∧ x.2.testBit w = false) (stkL R s i) c 0).length) → ∀ x7, V mX12_rowsTo (D + 5) 78 [some (.ref 44), some (.int (nI N)), some (.int (nI v)), some (.int w32), some (.int (nI (mc R.2.2.2.1 s))), some (.int (nI i)), some (.int (nI c)), x7] [] τ Q := by
    intro i hi next j
    induction j with
    | zero =>
      intro c τ hc hF g1 g2 x7
      have h33 := (hMt τ hF).2.2.2.1
      obtain rfl : c = 8 * R.2.2.2.1 * R.2.2.2.1 := by omega
      refine v_iload dX12_rowsTo_78 rfl ?_
      refine v_aload_n dX12_rowsTo_80 rfl ?_
      refine v_callV0 dX12_rowsTo_81 mv_RX12_233 rfl rfl (Nat.le_of_ble_eq_true rfl) ?_
      refine ok_states h33 ?_
      show V _ _ _ _ (_ :: _) _ _
      refine v_icmp_ge dX12_rowsTo_84 (fun zc84 => ?_) (fun zc84 => ?_)
      · exact next τ _ _ hF (fun c' hc' => by rw [g2 c' hc', grpC_end (fun x hx => mc_lt hm (hLv i x hx).w), List.length_map]; rfl)
      · exact absurd (nI_le (Nat.le_refl _) (by omega)) zc84
    | succ j ih =>
      intro c τ hc hF g1 g2 x7
      have h33 := (hMt τ hF).2.2.2.1
      have hks := keys i c hi (by omega) (fun τ' y7 q1 q2 q3 => by
        have hgo := ih (c + 1) τ' (by omega) q1 q2 q3
        refine v_iinc dX12_rowsTo_148 rfl (Nat.le_of_ble_eq_true rfl) rfl ?_
        refine v_goto dX12_rowsTo_151 ?_
        rw [nI_1]
        exact hgo _) R.2.2.2.2.length 0 τ (by omega) (Or.inl rfl) hF g1 g2
      refine v_iload dX12_rowsTo_78 rfl ?_
      refine v_aload_n dX12_rowsTo_80 rfl ?_
      refine v_callV0 dX12_rowsTo_81 mv_RX12_233 rfl rfl (Nat.le_of_ble_eq_true rfl) ?_
      refine ok_states h33 ?_
      show V _ _ _ _ (_ :: _) _ _
      refine v_icmp_ge dX12_rowsTo_84 (fun zc84 => ?_) (fun zc84 => ?_)
      · exact absurd zc84 (nI_ge (by omega) (by omega))
      · refine v_iconst dX12_rowsTo_87 ?_
        refine v_istore dX12_rowsTo_88 (Nat.le_of_ble_eq_true rfl) rfl ?_
        exact hks
  -- the copy
  have copy : ∀ i, (∀ τ x6 x7, GFr σ τ → (∀ c', c' < 8 * R.2.2.2.1 * R.2.2.2.1 → τ.1 53 c' = nI (cF R.2.2.2.1 (stkL R s (i + 1)) w c')) → V mX12_rowsTo (D + 5) 186 [some (.ref 44), some (.int (nI N)), some (.int (nI v)), some (.int w32), some (.int (nI (mc R.2.2.2.1 s))), some (.int (nI i)), some x6, x7] [] τ Q) →
      ∀ j c τ, c + j = 8 * R.2.2.2.1 * R.2.2.2.1 → GFr σ τ → (∀ c', c' < 8 * R.2.2.2.1 * R.2.2.2.1 → τ.1 54 c' = nI (cF R.2.2.2.1 (stkL R s (i + 1)) w c')) → (∀ c', c' < c → τ.1 53 c' = nI (cF R.2.2.2.1 (stkL R s (i + 1)) w c')) → ∀ x7, V mX12_rowsTo (D + 5) 157 [some (.ref 44), some (.int (nI N)), some (.int (nI v)), some (.int w32), some (.int (nI (mc R.2.2.2.1 s))), some (.int (nI i)), some (.int (nI c)), x7] [] τ Q := by
    intro i next j
    induction j with
    | zero =>
      intro c τ hc hF g1 g2 x7
      have h33 := (hMt τ hF).2.2.2.1
      refine v_iload dX12_rowsTo_157 rfl ?_
      refine v_aload_n dX12_rowsTo_159 rfl ?_
      refine v_callV0 dX12_rowsTo_160 mv_RX12_233 rfl rfl (Nat.le_of_ble_eq_true rfl) ?_
      refine ok_states h33 ?_
      show V _ _ _ _ (_ :: _) _ _
      refine v_icmp_ge dX12_rowsTo_163 (fun zc163 => ?_) (fun zc163 => ?_)
      · exact next τ _ _ hF (fun c' hc' => g2 c' (by omega))
      · exact absurd (nI_le (by omega) (by omega)) zc163
    | succ j ih =>
      intro c τ hc hF g1 g2 x7
      have h33 := (hMt τ hF).2.2.2.1
      have hgo := ih (c + 1) (setI τ 53 c (τ.1 54 c)) (by omega) (hF.set (by omega)) (fun c' hc' => by rw [setI_ne (by omega)]; exact g1 c' hc') (fun c' hc' => by
        rcases Nat.lt_or_ge c' c with h | h
        · rw [setI_ne (by omega)]; exact g2 c' h
        · rw [show c' = c by omega, setI_same]; exact g1 c (by omega))
      refine v_iload dX12_rowsTo_157 rfl ?_
      refine v_aload_n dX12_rowsTo_159 rfl ?_
      refine v_callV0 dX12_rowsTo_160 mv_RX12_233 rfl rfl (Nat.le_of_ble_eq_true rfl) ?_
      refine ok_states h33 ?_
      show V _ _ _ _ (_ :: _) _ _
      refine v_icmp_ge dX12_rowsTo_163 (fun zc163 => ?_) (fun zc163 => ?_)
      · exact absurd zc163 (nI_ge (by omega) (by omega))
      · refine v_aload_n dX12_rowsTo_166 rfl ?_
        refine v_getR (q := 53) dX12_rowsTo_167 fl_RX12_44 rfl rfl ?_
        refine v_iload dX12_rowsTo_170 rfl ?_
        refine v_aload_n dX12_rowsTo_172 rfl ?_
        refine v_getR (q := 54) dX12_rowsTo_173 fl_RX12_47 rfl rfl ?_
        refine v_iload dX12_rowsTo_176 rfl ?_
        refine v_iaload dX12_rowsTo_178 rfl (by exact vp_in_nI (by omega) (by omega)) ?_
        rw [nI_clamp (by omega)]
        refine v_iastore dX12_rowsTo_179 rfl (by exact vp_in_nI (by omega) (by omega)) ?_
        rw [nI_clamp (by omega)]
        refine v_iinc dX12_rowsTo_180 rfl (Nat.le_of_ble_eq_true rfl) rfl ?_
        refine v_goto dX12_rowsTo_183 ?_
        rw [nI_1]
        exact hgo _
  -- line cleared
  have clear : ∀ i τ, GFr σ τ → (∀ τ' x6 x7, GFr σ τ' → (∀ c', τ'.1 53 c' = τ.1 53 c') → (∀ c', c' < 8 * R.2.2.2.1 * R.2.2.2.1 → τ'.1 54 c' = 0) → V mX12_rowsTo (D + 5) 75 [some (.ref 44), some (.int (nI N)), some (.int (nI v)), some (.int w32), some (.int (nI (mc R.2.2.2.1 s))), some (.int (nI i)), some x6, x7] [] τ' Q) → ∀ j c x7, c + j = 8 * R.2.2.2.1 * R.2.2.2.1 → V mX12_rowsTo (D + 5) 52 [some (.ref 44), some (.int (nI N)), some (.int (nI v)), some (.int w32), some (.int (nI (mc R.2.2.2.1 s))), some (.int (nI i)), some (.int (nI c)), x7] [] (fillI τ 54 c 0) Q := by
    intro i τ hF next j
    have hF2 : ∀ c, GFr σ (fillI τ 54 c 0) := fun c => ⟨fun a b h => by rw [fillI_o (by omega)]; exact hF.1 a b h, hF.2⟩
    induction j with
    | zero =>
      intro c x7 hc
      have h33 := (hMt _ (hF2 c)).2.2.2.1
      refine v_iload dX12_rowsTo_52 rfl ?_
      refine v_aload_n dX12_rowsTo_54 rfl ?_
      refine v_callV0 dX12_rowsTo_55 mv_RX12_233 rfl rfl (Nat.le_of_ble_eq_true rfl) ?_
      refine ok_states h33 ?_
      show V _ _ _ _ (_ :: _) _ _
      refine v_icmp_ge dX12_rowsTo_58 (fun zc58 => ?_) (fun zc58 => ?_)
      · exact next _ _ _ (hF2 c) (fun c' => fillI_o (by omega)) (fun c' hc' => fillI_i (by omega))
      · exact absurd (nI_le (by omega) (by omega)) zc58
    | succ j ih =>
      intro c x7 hc
      have h33 := (hMt _ (hF2 c)).2.2.2.1
      have hgo := ih (c + 1) x7 (by omega)
      refine v_iload dX12_rowsTo_52 rfl ?_
      refine v_aload_n dX12_rowsTo_54 rfl ?_
      refine v_callV0 dX12_rowsTo_55 mv_RX12_233 rfl rfl (Nat.le_of_ble_eq_true rfl) ?_
      refine ok_states h33 ?_
      show V _ _ _ _ (_ :: _) _ _
      refine v_icmp_ge dX12_rowsTo_58 (fun zc58 => ?_) (fun zc58 => ?_)
      · exact absurd zc58 (nI_ge (by omega) (by omega))
      · refine v_aload_n dX12_rowsTo_61 rfl ?_
        refine v_getR (q := 54) dX12_rowsTo_62 fl_RX12_47 rfl rfl ?_
        refine v_iload dX12_rowsTo_65 rfl ?_
        refine v_iconst dX12_rowsTo_67 ?_
        refine v_iastore dX12_rowsTo_68 rfl (by exact vp_in_nI (by omega) (by omega)) ?_
        rw [nI_clamp (by omega), fillI_s]
        refine v_iinc dX12_rowsTo_69 rfl (Nat.le_of_ble_eq_true rfl) rfl ?_
        refine v_goto dX12_rowsTo_72 ?_
        rw [nI_1]
        exact hgo
  -- the strokes
  have strokes : ∀ j i τ, i + j = N → GFr σ τ → (∀ c', c' < 8 * R.2.2.2.1 * R.2.2.2.1 → τ.1 53 c' = nI (cF R.2.2.2.1 (stkL R s i) w c')) → ∀ x6 x7, V mX12_rowsTo (D + 5) 43 [some (.ref 44), some (.int (nI N)), some (.int (nI v)), some (.int w32), some (.int (nI (mc R.2.2.2.1 s))), some (.int (nI i)), x6, x7] [] τ Q := by
    intro j
    induction j with
    | zero =>
      intro i τ hi hF g1 x6 x7
      obtain rfl : i = N := by omega
      have h0 : cS R.2.2.2.1 (stkL R s i) v w 0 = 0 := by
        unfold cS
        rw [fl_e (fun x hx h => by omega)]
        rfl
      have hgo := sum (8 * R.2.2.2.1 * R.2.2.2.1) 0 τ (by omega) hF g1
      rw [h0] at hgo
      refine v_iload dX12_rowsTo_43 rfl ?_
      refine v_iload_n dX12_rowsTo_45 rfl ?_
      refine v_icmp_ge dX12_rowsTo_46 (fun zc46 => ?_) (fun zc46 => ?_)
      · refine v_iconst dX12_rowsTo_192 ?_
        refine v_istore dX12_rowsTo_193 (Nat.le_of_ble_eq_true rfl) rfl ?_
        refine v_iconst dX12_rowsTo_195 ?_
        refine v_istore dX12_rowsTo_196 (Nat.le_of_ble_eq_true rfl) rfl ?_
        exact hgo _
      · exact absurd (nI_le (Nat.le_refl _) (by omega)) zc46
    | succ j ih =>
      intro i τ hi hF g1 x6 x7
      have hcl := clear i τ hF (fun τ' y6 y7 q1 q2 q3 => by
        have hst := states i (by omega) (fun τ2 z6 z7 p1 p2 => by
          have hcp := copy i (fun τ3 w6 w7 t1 t2 => by
            have hgo := ih (i + 1) τ3 (by omega) t1 t2
            refine v_iinc dX12_rowsTo_186 rfl (Nat.le_of_ble_eq_true rfl) rfl ?_
            refine v_goto dX12_rowsTo_189 ?_
            rw [nI_1]
            exact hgo _ _) (8 * R.2.2.2.1 * R.2.2.2.1) 0 τ2 (by omega) p1 p2 (fun c' hc' => absurd hc' (by omega))
          refine v_iconst dX12_rowsTo_154 ?_
          refine v_istore dX12_rowsTo_155 (Nat.le_of_ble_eq_true rfl) rfl ?_
          exact hcp _) (8 * R.2.2.2.1 * R.2.2.2.1) 0 τ' (by omega) q1 (fun c' hc' => by rw [q2]; exact g1 c' hc') (fun c' hc' => by rw [q3 c' hc', grpC_0]; rfl)
        refine v_iconst dX12_rowsTo_75 ?_
        refine v_istore dX12_rowsTo_76 (Nat.le_of_ble_eq_true rfl) rfl ?_
        exact hst _) (8 * R.2.2.2.1 * R.2.2.2.1) 0
      rw [fillI_0] at hcl
      refine v_iload dX12_rowsTo_43 rfl ?_
      refine v_iload_n dX12_rowsTo_45 rfl ?_
      refine v_icmp_ge dX12_rowsTo_46 (fun zc46 => ?_) (fun zc46 => ?_)
      · exact absurd zc46 (nI_ge (by omega) (by omega))
      · refine v_iconst dX12_rowsTo_49 ?_
        refine v_istore dX12_rowsTo_50 (Nat.le_of_ble_eq_true rfl) rfl ?_
        exact hcl _ (by omega)
  have fill : ∀ j c x6 x7, c + j = 8 * R.2.2.2.1 * R.2.2.2.1 → V mX12_rowsTo (D + 5) 9 [some (.ref 44), some (.int (nI N)), some (.int (nI v)), some (.int w32), some (.int (nI (mc R.2.2.2.1 s))), some (.int (nI c)), x6, x7] [] (fillI σ 53 c 0) Q := by
    intro j
    induction j with
    | zero =>
      intro c x6 x7 hc
      have h33 : (fillI σ 53 c 0).1 44 3 = nI R.2.2.2.1 := by rw [fillI_o (by omega)]; exact hM.2.2.2.1
      have hst := strokes N 0 (setI (fillI σ 53 c 0) 53 (mc R.2.2.2.1 s) 1) (by omega) ⟨fun a b h => by rw [setI_ne (by omega), fillI_o (by omega)], rfl⟩ (fun c' hc' => by
        have eg : cF R.2.2.2.1 (stkL R s 0) w c' = if mc R.2.2.2.1 s = c' then 1 else 0 := by
          unfold cF stkL
          rw [List.filter_cons]
          by_cases h : mc R.2.2.2.1 s = c' <;> simp [h]
        rw [eg]
        by_cases h : mc R.2.2.2.1 s = c'
        · rw [if_pos h, h, setI_same]; rfl
        · rw [if_neg h, setI_ne (by omega), fillI_i (by omega)]; rfl)
      refine v_iload dX12_rowsTo_9 rfl ?_
      refine v_aload_n dX12_rowsTo_11 rfl ?_
      refine v_callV0 dX12_rowsTo_12 mv_RX12_233 rfl rfl (Nat.le_of_ble_eq_true rfl) ?_
      refine ok_states h33 ?_
      show V _ _ _ _ (_ :: _) _ _
      refine v_icmp_ge dX12_rowsTo_15 (fun zc15 => ?_) (fun zc15 => ?_)
      · refine v_aload_n dX12_rowsTo_32 rfl ?_
        refine v_getR (q := 53) dX12_rowsTo_33 fl_RX12_44 rfl rfl ?_
        refine v_iload dX12_rowsTo_36 rfl ?_
        refine v_iconst dX12_rowsTo_38 ?_
        refine v_iastore dX12_rowsTo_39 rfl (by exact vp_in_nI (by omega) (by omega)) ?_
        rw [nI_clamp (by omega)]
        refine v_iconst dX12_rowsTo_40 ?_
        refine v_istore dX12_rowsTo_41 (Nat.le_of_ble_eq_true rfl) rfl ?_
        exact hst _ _
      · exact absurd (nI_le (by omega) (by omega)) zc15
    | succ j ih =>
      intro c x6 x7 hc
      have h33 : (fillI σ 53 c 0).1 44 3 = nI R.2.2.2.1 := by rw [fillI_o (by omega)]; exact hM.2.2.2.1
      refine v_iload dX12_rowsTo_9 rfl ?_
      refine v_aload_n dX12_rowsTo_11 rfl ?_
      refine v_callV0 dX12_rowsTo_12 mv_RX12_233 rfl rfl (Nat.le_of_ble_eq_true rfl) ?_
      refine ok_states h33 ?_
      show V _ _ _ _ (_ :: _) _ _
      refine v_icmp_ge dX12_rowsTo_15 (fun zc15 => ?_) (fun zc15 => ?_)
      · exact absurd zc15 (nI_ge (by omega) (by omega))
      · refine v_aload_n dX12_rowsTo_18 rfl ?_
        refine v_getR (q := 53) dX12_rowsTo_19 fl_RX12_44 rfl rfl ?_
        refine v_iload dX12_rowsTo_22 rfl ?_
        refine v_iconst dX12_rowsTo_24 ?_
        refine v_iastore dX12_rowsTo_25 rfl (by exact vp_in_nI (by omega) (by omega)) ?_
        rw [nI_clamp (by omega), fillI_s]
        refine v_iinc dX12_rowsTo_26 rfl (Nat.le_of_ble_eq_true rfl) rfl ?_
        refine v_goto dX12_rowsTo_29 ?_
        rw [nI_1]
        exact ih (c + 1) _ _ (by omega)
  have hfill := fill (8 * R.2.2.2.1 * R.2.2.2.1) 0
  rw [fillI_0] at hfill
  refine ok_enter rfl (Nat.le_of_ble_eq_true rfl) ?_
  refine v_aload_n dX12_rowsTo_0 rfl ?_
  refine v_callV0 dX12_rowsTo_1 mv_RX12_229 rfl rfl (Nat.le_of_ble_eq_true rfl) ?_
  refine ok_stateNow hM.2.2.2.1 hS hs.w hm2 ?_
  show V _ _ _ _ (_ :: _) _ _
  refine v_istore dX12_rowsTo_4 (Nat.le_of_ble_eq_true rfl) rfl ?_
  refine v_iconst dX12_rowsTo_6 ?_
  refine v_istore dX12_rowsTo_7 (Nat.le_of_ble_eq_true rfl) rfl ?_
  exact hfill _ _ (by omega)
def rsS (R : Rk) (s : St) (n v : Nat) : Nat → Nat
  | 0 => 0
  | k + 1 => rsS R s n v k ||| (if rowS R s n v k = 0 then 2 ^ k else 0)
theorem rsS_bit {v : Nat} : ∀ k b, (rsS R s n v k).testBit b = true ↔ b < k ∧ rowS R s n v b = 0
  | 0, b => by
    show (0 : Nat).testBit b = true ↔ _
    rw [Nat.zero_testBit]
    simp
  | k + 1, b => by
    show (rsS R s n v k ||| (if rowS R s n v k = 0 then 2 ^ k else 0)).testBit b = true ↔ _
    rw [Nat.testBit_or, Bool.or_eq_true, rsS_bit k b]
    have e : (if rowS R s n v k = 0 then 2 ^ k else 0).testBit b = true ↔ b = k ∧ rowS R s n v k = 0 := by
      by_cases h : rowS R s n v k = 0
      · rw [if_pos h, Nat.testBit_two_pow]
        simp [h, eq_comm]
      · rw [if_neg h, Nat.zero_testBit]
        simp [h]
    rw [e]
    constructor
    · rintro (⟨h1, h2⟩ | ⟨h1, h2⟩)
      · exact ⟨by omega, h2⟩
      · subst h1; exact ⟨by omega, h2⟩
    · rintro ⟨h1, h2⟩
      by_cases h : b = k
      · subst h; exact Or.inr ⟨rfl, h2⟩
      · exact Or.inl ⟨by omega, h2⟩
theorem rsS_lt {v : Nat} : ∀ k, rsS R s n v k < 2 ^ k
  | 0 => by show 0 < 1; decide
  | k + 1 => by
    refine Nat.or_lt_two_pow (Nat.lt_of_lt_of_le (rsS_lt k) (Nat.pow_le_pow_right (by decide) (by omega))) ?_
    split
    · exact Nat.pow_lt_pow_right (by decide) (by omega)
    · exact Nat.two_pow_pos _
theorem rowS_9 (hv : vR 8 R) (hs : vS R.2.2.2.1 s) {v : Nat} : rowS R s n v 9 = stkTot R s n v := by
  unfold rowS stkTot
  rw [fl_c (fun x hx => ⟨fun h => h.1, fun h => ⟨h, Nat.testBit_lt_two_pow (Nat.lt_of_lt_of_le (stkL_v hv hs n x hx).2 (Nat.pow_le_pow_right (by decide) (by have := hv.n9; omega)))⟩⟩)]
theorem rsS_com (hv : vR 8 R) (hs : vS R.2.2.2.1 s) {v : Nat} (h0 : ¬ stkTot R s n v = 0) : rsS R s n v R.2.2.2.2.length = stkCom R s n v := by
  have hnk := hv.n9
  unfold stkCom
  rw [if_neg h0]
  apply Nat.eq_of_testBit_eq
  intro b
  rw [Bool.eq_iff_iff, rsS_bit, andL_bit]
  have hz : rowS R s n v b = 0 ↔ ∀ x ∈ ((stkL R s n).filter (fun x => decide (x.1.1 = v))).map Prod.snd, x.testBit b = true := by
    unfold rowS
    rw [List.length_eq_zero_iff, List.filter_eq_nil_iff]
    constructor
    · intro h x hx
      obtain ⟨y, hy, rfl⟩ := List.mem_map.mp hx
      obtain ⟨h1, h2⟩ := List.mem_filter.mp hy
      have h3 := h y h1
      have h4 : y.1.1 = v := by simpa using h2
      cases h5 : y.2.testBit b with
      | true => rfl
      | false => exact absurd (by simpa using ⟨h4, h5⟩) h3
    · intro h x hx h1
      obtain ⟨h2, h3⟩ : x.1.1 = v ∧ x.2.testBit b = false := by simpa using h1
      have := h x.2 (List.mem_map.mpr ⟨x, List.mem_filter.mpr ⟨hx, by simpa using h2⟩, rfl⟩)
      rw [h3] at this
      exact absurd this (by decide)
  rw [← hz]
  constructor
  · rintro ⟨h1, h2⟩; exact ⟨by omega, h2⟩
  · rintro ⟨h1, h2⟩
    refine ⟨?_, h2⟩
    rcases Nat.lt_or_ge b R.2.2.2.2.length with h | h
    · exact h
    · exfalso
      unfold stkTot at h0
      obtain ⟨x, hx⟩ := List.exists_mem_of_length_pos (Nat.pos_of_ne_zero h0)
      have h3 := hz.mp h2 x.2 (List.mem_map.mpr ⟨x, hx, rfl⟩)
      have h5 := (stkL_v hv hs n x (List.mem_filter.mp hx).1).2
      rw [Nat.testBit_lt_two_pow (Nat.lt_of_lt_of_le h5 (Nat.pow_le_pow_right (by decide) h))] at h3
      exact absurd h3 (by decide)
theorem stkTot_le (hv : vR 8 R) {v : Nat} (hN : n ≤ 8) : stkTot R s n v ≤ 16777216 := Nat.le_trans (List.length_filter_le _ _) (Nat.le_trans (stkL_len hv.n9 n) (Nat.pow_le_pow_right (n := 8) (by decide) hN))
theorem rowS_le (hv : vR 8 R) {v w : Nat} (hN : n ≤ 8) : rowS R s n v w ≤ 16777216 := Nat.le_trans (List.length_filter_le _ _) (Nat.le_trans (stkL_len hv.n9 n) (Nat.pow_le_pow_right (n := 8) (by decide) hN))
theorem ScFr.mp (h : ScFr σ τ) (hP : MP σ R s) : MP τ R s := by
  obtain ⟨hM, h4, hv, hS, hs⟩ := hP
  obtain ⟨g1, g2, g3, g4⟩ := hS
  exact ⟨hM.kept (fun b hb => h.1 _ _ (by omega)) (fun b => h.1 _ _ (by omega)), by rw [h.1 _ _ (by omega)]; exact h4, hv, ⟨by rw [h.1 _ _ (by omega)]; exact g1, by rw [h.1 _ _ (by omega)]; exact g2, by rw [h.1 _ _ (by omega)]; exact g3, by rw [h.1 _ _ (by omega)]; exact g4⟩, hs⟩
theorem ok_mstruck {x y z : Int32} (hP : MP σ R s) (hQ : ∀ τ, ScFr σ τ → Q (some (.int (stkAns R s x.toInt y.toInt z.toInt))) τ) : Ok (D + 6) mX12_struck [.ref 44, .int x, .int y, .int z] σ Q := by
  obtain ⟨hM, h4, hv, hS, hs⟩ := id hP
  have hm := hv.m100
  have hnk := hv.n9
  obtain ⟨x1, x2⟩ := iz_rng x
  have hxe := iz_of x
  generalize hxi : x.toInt = xi at *
  subst hxe
  obtain ⟨y1, y2⟩ := iz_rng y
  have hye := iz_of y
  generalize hyi : y.toInt = yi at *
  subst hye
  obtain ⟨z1, z2⟩ := iz_rng z
  have hze := iz_of z
  generalize hzi : z.toInt = zi at *
  subst hze
  unfold stkAns at hQ
  have out : (xi < 0 ∨ 8 < xi ∨ ¬ (0 ≤ yi ∧ yi < R.2.2.2.1) ∨ zi < 0 ∨ 1 < zi) → Q (some (.int OUT)) σ := fun h => by
    have := hQ σ ScFr.rf
    rw [if_pos h] at this
    exact this
  have main : ¬ (xi < 0 ∨ 8 < xi ∨ ¬ (0 ≤ yi ∧ yi < R.2.2.2.1) ∨ zi < 0 ∨ 1 < zi) → V mX12_struck (D + 6) 30 [some (.ref 44), some (.int (iz xi)), some (.int (iz yi)), some (.int (iz zi)), none, none, none] [] σ Q := by
    intro hok
    have hq : ∀ τ, ScFr σ τ → Q (some (.int (nI (if zi = 0 then stkTot R s xi.toNat yi.toNat else stkCom R s xi.toNat yi.toNat)))) τ := fun τ h => by
      have := hQ τ h
      rw [if_neg hok] at this
      exact this
    obtain ⟨N, hN⟩ : ∃ N : Nat, xi = N := ⟨xi.toNat, by omega⟩
    obtain ⟨g, hg⟩ : ∃ g : Nat, yi = g := ⟨yi.toNat, by omega⟩
    subst hN
    subst hg
    rw [← iz_nI, ← iz_nI]
    have hq2 : ∀ τ, ScFr σ τ → Q (some (.int (nI (if zi = 0 then stkTot R s N g else stkCom R s N g)))) τ := hq
    have htl := stkTot_le (s := s) (v := g) hv (show N ≤ 8 by omega)
    have loop : ¬ zi = 0 → ¬ stkTot R s N g = 0 → ∀ j k τ, k + j = R.2.2.2.2.length → ScFr σ τ → V mX12_struck (D + 6) 57 [some (.ref 44), some (.int (nI N)), some (.int (nI g)), some (.int (iz zi)), some (.int (nI (stkTot R s N g))), some (.int (nI (rsS R s N g k))), some (.int (nI k))] [] τ Q := by
      intro hz h0 j
      induction j with
      | zero =>
        intro k τ hk hF
        obtain rfl : k = R.2.2.2.2.length := by omega
        have h44 := (hF.mp hP).2.1
        have h9 := hq2 τ hF
        rw [if_neg hz, ← rsS_com hv hs h0] at h9
        refine v_iload dX12_struck_57 rfl ?_
        refine v_aload_n dX12_struck_59 rfl ?_
        refine v_getI dX12_struck_60 fl_RX12_182 rfl ?_
        rw [h44]
        refine v_icmp_ge dX12_struck_63 (fun zc63 => ?_) (fun zc63 => ?_)
        · refine v_iload dX12_struck_96 rfl ?_
          refine v_ireturn dX12_struck_98 rfl (rfl) ?_
          exact h9
        · exact absurd (nI_le (Nat.le_refl _) (by omega)) zc63
      | succ j ih =>
        intro k τ hk hF
        have hMP := hF.mp hP
        have hrl := rowS_le (s := s) (v := g) (w := k) hv (show N ≤ 8 by omega)
        refine v_iload dX12_struck_57 rfl ?_
        refine v_aload_n dX12_struck_59 rfl ?_
        refine v_getI dX12_struck_60 fl_RX12_182 rfl ?_
        rw [hMP.2.1]
        refine v_icmp_ge dX12_struck_63 (fun zc63 => ?_) (fun zc63 => ?_)
        · exact absurd zc63 (nI_ge (by omega) (by omega))
        · refine v_iload dX12_struck_66 rfl ?_
          refine v_aload_n dX12_struck_68 rfl ?_
          refine v_iload_n dX12_struck_69 rfl ?_
          refine v_iload_n dX12_struck_70 rfl ?_
          refine v_iload dX12_struck_71 rfl ?_
          refine v_callV3 dX12_struck_73 mv_RX12_272 rfl rfl (Nat.le_of_ble_eq_true rfl) ?_
          refine ok_rowsTo (w := k) hMP (by omega) (by omega) (by omega) (fun k' hk' => nI_eq (by omega) (by omega)) (fun τ' f1 => ?_)
          have hgo := ih (k + 1) τ' (by omega) (hF.tr f1)
          have er : rsS R s N g (k + 1) = rsS R s N g k ||| (if rowS R s N g k = 0 then 2 ^ k else 0) := rfl
          rw [er] at hgo
          show V _ _ _ _ (_ :: _) _ _
          refine v_if_ne dX12_struck_76 (fun zc76 => ?_) (fun zc76 => ?_)
          · rw [show (0 : Int32) = nI 0 from rfl, nI_eq (by omega) (by omega)] at zc76
            refine v_iconst dX12_struck_86 ?_
            refine v_ior dX12_struck_87 ?_
            refine v_istore dX12_struck_88 (Nat.le_of_ble_eq_true rfl) rfl ?_
            refine v_iinc dX12_struck_90 rfl (Nat.le_of_ble_eq_true rfl) rfl ?_
            refine v_goto dX12_struck_93 ?_
            rw [nI_1]
            first | (rw [if_pos zc76] at hgo; rw [sh1 (by omega), nb_or]; exact hgo) | (rw [if_neg zc76] at hgo; rw [show (0 : Int32) = nI 0 from rfl, nb_or]; exact hgo)
          · rw [show (0 : Int32) = nI 0 from rfl, nI_eq (by omega) (by omega)] at zc76
            refine v_iconst dX12_struck_79 ?_
            refine v_iload dX12_struck_80 rfl ?_
            refine v_ishl dX12_struck_82 ?_
            refine v_goto dX12_struck_83 ?_
            refine v_ior dX12_struck_87 ?_
            refine v_istore dX12_struck_88 (Nat.le_of_ble_eq_true rfl) rfl ?_
            refine v_iinc dX12_struck_90 rfl (Nat.le_of_ble_eq_true rfl) rfl ?_
            refine v_goto dX12_struck_93 ?_
            rw [nI_1]
            first | (rw [if_pos zc76] at hgo; rw [sh1 (by omega), nb_or]; exact hgo) | (rw [if_neg zc76] at hgo; rw [show (0 : Int32) = nI 0 from rfl, nb_or]; exact hgo)
    refine v_aload_n dX12_struck_30 rfl ?_
    refine v_iload_n dX12_struck_31 rfl ?_
    refine v_iload_n dX12_struck_32 rfl ?_
    refine v_iconst dX12_struck_33 ?_
    refine v_callV3 dX12_struck_34 mv_RX12_272 rfl rfl (Nat.le_of_ble_eq_true rfl) ?_
    refine ok_rowsTo (w := 9) hP (by omega) (by omega) (by omega) (fun k' hk' => ⟨fun h => absurd h (by rw [iz_nI, show (-1 : Int32) = iz (-1) from rfl, iz_eq (by omega) (by omega) (by omega) (by omega)]; omega), fun h => by omega⟩) (fun τ f1 => ?_)
    rw [rowS_9 hv hs]
    show V _ _ _ _ (_ :: _) _ _
    refine v_istore dX12_struck_37 (Nat.le_of_ble_eq_true rfl) rfl ?_
    refine v_iload_n dX12_struck_39 rfl ?_
    refine v_if_eq dX12_struck_40 (fun zc40 => ?_) (fun zc40 => ?_)
    · simp (disch := omega) only [iz_lit, iz_eq] at zc40
      refine v_iload dX12_struck_48 rfl ?_
      refine v_ireturn dX12_struck_50 rfl (rfl) ?_
      have h9 := hq2 τ f1
      first | (rw [if_pos (by omega)] at h9; exact h9) | (rw [if_neg (by omega)] at h9; unfold stkCom at h9; rw [if_pos zc45] at h9; rw [zc45]; exact h9)
    · simp (disch := omega) only [iz_lit, iz_eq] at zc40
      refine v_iload dX12_struck_43 rfl ?_
      refine v_if_ne dX12_struck_45 (fun zc45 => ?_) (fun zc45 => ?_)
      · rw [show (0 : Int32) = nI 0 from rfl, nI_eq (by omega) (by omega)] at zc45
        refine v_iconst dX12_struck_51 ?_
        refine v_istore dX12_struck_52 (Nat.le_of_ble_eq_true rfl) rfl ?_
        refine v_iconst dX12_struck_54 ?_
        refine v_istore dX12_struck_55 (Nat.le_of_ble_eq_true rfl) rfl ?_
        exact loop zc40 zc45 R.2.2.2.2.length 0 τ (by omega) f1
      · rw [show (0 : Int32) = nI 0 from rfl, nI_eq (by omega) (by omega)] at zc45
        refine v_iload dX12_struck_48 rfl ?_
        refine v_ireturn dX12_struck_50 rfl (rfl) ?_
        have h9 := hq2 τ f1
        first | (rw [if_pos (by omega)] at h9; exact h9) | (rw [if_neg (by omega)] at h9; unfold stkCom at h9; rw [if_pos zc45] at h9; rw [zc45]; exact h9)
  refine ok_enter rfl (Nat.le_of_ble_eq_true rfl) ?_
  refine v_iload_n dX12_struck_0 rfl ?_
  refine v_iconst dX12_struck_1 ?_
  refine v_bipush dX12_struck_2 ?_
  refine v_callS3 dX12_struck_4 ms_RX12_68 (Nat.le_of_ble_eq_true rfl) ?_
  refine ok_in ?_
  rw [iz_T0, show ((8 : Int32)).toInt = 8 from rfl, hxi]
  show V _ _ _ _ (_ :: _) _ _
  refine v_if_eq dX12_struck_7 (fun zc7 => ?_) (fun zc7 => ?_)
  · have hx := if01 zc7
    refine v_ldc dX12_struck_27 cn_RX12_72 ?_
    refine v_ireturn dX12_struck_29 rfl (rfl) ?_
    exact out (by omega)
  · have hx := if10 zc7
    refine v_aload_n dX12_struck_10 rfl ?_
    refine v_iload_n dX12_struck_11 rfl ?_
    refine v_callV1 dX12_struck_12 mv_RX12_243 rfl rfl (Nat.le_of_ble_eq_true rfl) ?_
    refine ok_isNumber hM.2.2.2.1 hm ?_
    rw [hyi]
    show V _ _ _ _ (_ :: _) _ _
    refine v_if_eq dX12_struck_15 (fun zc15 => ?_) (fun zc15 => ?_)
    · have hy := if01 zc15
      refine v_ldc dX12_struck_27 cn_RX12_72 ?_
      refine v_ireturn dX12_struck_29 rfl (rfl) ?_
      exact out (by omega)
    · have hy := if10 zc15
      refine v_iload_n dX12_struck_18 rfl ?_
      refine v_iconst dX12_struck_19 ?_
      refine v_iconst dX12_struck_20 ?_
      refine v_callS3 dX12_struck_21 ms_RX12_68 (Nat.le_of_ble_eq_true rfl) ?_
      refine ok_in ?_
      rw [iz_T0, show ((1 : Int32)).toInt = 1 from rfl, hzi]
      show V _ _ _ _ (_ :: _) _ _
      refine v_if_ne dX12_struck_24 (fun zc24 => ?_) (fun zc24 => ?_)
      · have hz := if10 zc24
        exact main (by omega)
      · have hz := if01 zc24
        refine v_ldc dX12_struck_27 cn_RX12_72 ?_
        refine v_ireturn dX12_struck_29 rfl (rfl) ?_
        exact out (by omega)
end MPa
