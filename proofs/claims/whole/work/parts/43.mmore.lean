/-! ===== one key more: the reference ===== -/
def MRT (σ : Wd) (tg : List Nat) : Prop := σ.1 44 27 = nI tg.length ∧ ∀ (i v : Nat), tg[i]? = some v → σ.1 48 i = nI v
def MmF (K : Nat) (σ τ : Wd) : Prop := (∀ a b, ¬ ((53 ≤ a ∧ a ≤ 59) ∨ (a = 45 ∧ (b = 4 * K ∨ b = 4 * K + 2))) → τ.1 a b = σ.1 a b) ∧ τ.2 = σ.2
section MM
variable {D : Nat} {σ τ υ : Wd} {Q : Option Value → Wd → Prop} {R : Rk} {s : St} {r n : Nat} {tg : List Nat}
theorem ok_allFewest (hM : RepM σ R) (hv : vR 9 R) (hm : 0 < R.2.2.2.1) (hS : RepS σ s) (hs : vS R.2.2.2.1 s) (hT : MRT σ tg) (hl : tg.length ≤ 6) (ht : ∀ v ∈ tg, v < R.2.2.2.1) (hQ : ∀ τ, ScFr σ τ → Q (some (.int (iz (sumT (fewS R s) tg)))) τ) : Ok (D + 5) mX12_allFewest [.ref 44, .int (nI R.2.2.2.2.length)] σ Q := by
  have hm2 := hv.m100
  have hfr := fun v => few_rng (v := v) hv hm hm2 hs
  have loop : ∀ τ, ScFr σ τ → (∀ v, v < 100 → τ.1 57 v = iz (fewS R s v)) → ∀ j i (acc : Int), i + j = tg.length → 0 ≤ acc → acc ≤ 60201 * i → acc + sumT (fewS R s) (tg.drop i) = sumT (fewS R s) tg → V mX12_allFewest (D + 5) 9 [some (.ref 44), some (.int (nI R.2.2.2.2.length)), some (.int (iz acc)), some (.int (nI i))] [] τ Q := by
    intro τ hF hw j
    have hTc : τ.1 44 27 = nI tg.length := by rw [hF.1 _ _ (by omega)]; exact hT.1
    induction j with
    | zero =>
      intro i acc hi a1 a2 he
      rw [List.drop_of_length_le (by omega)] at he
      have he2 : acc = sumT (fewS R s) tg := by rw [← he]; show acc = acc + 0; omega
      refine v_iload_n dX12_allFewest_9 rfl ?_
      refine v_aload_n dX12_allFewest_10 rfl ?_
      refine v_getI dX12_allFewest_11 fl_RX12_191 rfl ?_
      rw [hTc]
      refine v_icmp_ge dX12_allFewest_14 (fun zc14 => ?_) (fun zc14 => ?_)
      · refine v_iload_n dX12_allFewest_57 rfl ?_
        refine v_ireturn dX12_allFewest_58 rfl (rfl) ?_
        rw [he2]
        exact hQ τ hF
      · exact absurd (nI_le (by omega) (by omega)) zc14
    | succ j ih =>
      intro i acc hi a1 a2 he
      have hil : i < tg.length := by omega
      have hti : τ.1 48 i = nI tg[i] := by rw [hF.1 _ _ (by omega)]; exact hT.2 i _ (List.getElem?_eq_getElem hil)
      have hvm := ht _ (List.getElem_mem hil)
      have hwv := hw tg[i] (by omega)
      have hfv := hfr tg[i]
      rw [List.drop_eq_getElem_cons hil] at he
      have he2 : acc + ((if fewS R s tg[i] = -1 then 99 else fewS R s tg[i]) + sumT (fewS R s) (tg.drop (i + 1))) = sumT (fewS R s) tg := he
      refine v_iload_n dX12_allFewest_9 rfl ?_
      refine v_aload_n dX12_allFewest_10 rfl ?_
      refine v_getI dX12_allFewest_11 fl_RX12_191 rfl ?_
      rw [hTc]
      refine v_icmp_ge dX12_allFewest_14 (fun zc14 => ?_) (fun zc14 => ?_)
      · exact absurd zc14 (nI_ge (by omega) (by omega))
      · refine v_iload_n dX12_allFewest_17 rfl ?_
        refine v_aload_n dX12_allFewest_18 rfl ?_
        refine v_getR (q := 57) dX12_allFewest_19 fl_RX12_56 rfl rfl ?_
        refine v_aload_n dX12_allFewest_22 rfl ?_
        refine v_getR (q := 48) dX12_allFewest_23 fl_RX12_26 rfl rfl ?_
        refine v_iload_n dX12_allFewest_26 rfl ?_
        refine v_iaload dX12_allFewest_27 rfl (by exact vp_in_nI (by omega) (by omega)) ?_
        rw [nI_clamp (by omega), hti]
        refine v_iaload dX12_allFewest_28 rfl (by exact vp_in_nI (by omega) (by omega)) ?_
        rw [nI_clamp (by omega), hwv]
        refine v_iconst dX12_allFewest_29 ?_
        refine v_icmp_ne dX12_allFewest_30 (fun zc30 => ?_) (fun zc30 => ?_)
        · rw [show (-1 : Int32) = iz (-1) from rfl, iz_eq (by omega) (by omega) (by omega) (by omega)] at zc30
          refine v_aload_n dX12_allFewest_38 rfl ?_
          refine v_getR (q := 57) dX12_allFewest_39 fl_RX12_56 rfl rfl ?_
          refine v_aload_n dX12_allFewest_42 rfl ?_
          refine v_getR (q := 48) dX12_allFewest_43 fl_RX12_26 rfl rfl ?_
          refine v_iload_n dX12_allFewest_46 rfl ?_
          refine v_iaload dX12_allFewest_47 rfl (by exact vp_in_nI (by omega) (by omega)) ?_
          rw [nI_clamp (by omega), hti]
          refine v_iaload dX12_allFewest_48 rfl (by exact vp_in_nI (by omega) (by omega)) ?_
          rw [nI_clamp (by omega), hwv]
          refine v_iadd dX12_allFewest_49 ?_
          refine v_istore_n dX12_allFewest_50 (Nat.le_of_ble_eq_true rfl) rfl ?_
          refine v_iinc dX12_allFewest_51 rfl (Nat.le_of_ble_eq_true rfl) rfl ?_
          refine v_goto dX12_allFewest_54 ?_
          rw [nI_1]
          first | (rw [show (99 : Int32) = iz 99 from rfl, iz_add]; rw [if_pos zc30] at he2; exact ih (i + 1) _ (by omega) (by omega) (by omega) (by omega)) | (rw [iz_add]; rw [if_neg zc30] at he2; exact ih (i + 1) _ (by omega) (by omega) (by omega) (by omega))
        · rw [show (-1 : Int32) = iz (-1) from rfl, iz_eq (by omega) (by omega) (by omega) (by omega)] at zc30
          refine v_bipush dX12_allFewest_33 ?_
          refine v_goto dX12_allFewest_35 ?_
          refine v_iadd dX12_allFewest_49 ?_
          refine v_istore_n dX12_allFewest_50 (Nat.le_of_ble_eq_true rfl) rfl ?_
          refine v_iinc dX12_allFewest_51 rfl (Nat.le_of_ble_eq_true rfl) rfl ?_
          refine v_goto dX12_allFewest_54 ?_
          rw [nI_1]
          first | (rw [show (99 : Int32) = iz 99 from rfl, iz_add]; rw [if_pos zc30] at he2; exact ih (i + 1) _ (by omega) (by omega) (by omega) (by omega)) | (rw [iz_add]; rw [if_neg zc30] at he2; exact ih (i + 1) _ (by omega) (by omega) (by omega) (by omega))
  refine ok_enter rfl (Nat.le_of_ble_eq_true rfl) ?_
  refine v_aload_n dX12_allFewest_0 rfl ?_
  refine v_iload_n dX12_allFewest_1 rfl ?_
  refine v_callV1 dX12_allFewest_2 mv_RX12_246 rfl rfl (Nat.le_of_ble_eq_true rfl) ?_
  refine ok_layFewest hM hv hm hS hs (fun τ f => ?_)
  show V _ _ _ _ _ _ _
  refine v_iconst dX12_allFewest_5 ?_
  refine v_istore_n dX12_allFewest_6 (Nat.le_of_ble_eq_true rfl) rfl ?_
  refine v_iconst dX12_allFewest_7 ?_
  refine v_istore_n dX12_allFewest_8 (Nat.le_of_ble_eq_true rfl) rfl ?_
  exact loop τ ⟨fun a b h => f.1 a b (by omega), f.2.1⟩ (fun v hv2 => f.2.2.2.few hv2) tg.length 0 0 (by omega) (by omega) (by omega) (by rw [List.drop_zero]; omega)
theorem MmF.mp (h : MmF R.2.2.2.2.length σ τ) (hP : MP σ R s) : MP τ R s := by
  obtain ⟨a1, a2, a3, a4, a5⟩ := hP
  obtain ⟨q0, q1, q2, q3, q4, q5⟩ := a1
  have h4 : τ.1 44 4 = σ.1 44 4 := h.1 _ _ (by omega)
  refine ⟨⟨by rw [h.1 _ _ (by omega)]; exact q0, by rw [h.1 _ _ (by omega)]; exact q1, by rw [h.1 _ _ (by omega)]; exact q2, by rw [h.1 _ _ (by omega)]; exact q3, fun i k hi hlt => ?_, fun i k hi => ?_⟩, by rw [h4]; exact a2, a3, ?_, a5⟩
  · have hil := (List.getElem?_eq_some_iff.mp hi).1
    rw [h4] at hlt
    rw [h.1 _ _ (by omega), h.1 _ _ (by omega)]
    exact q4 i k hi hlt
  · have hil := (List.getElem?_eq_some_iff.mp hi).1
    rw [h.1 _ _ (by omega), h.1 _ _ (by omega), h.1 _ _ (by omega)]
    exact q5 i k hi
  · obtain ⟨g1, g2, g3, g4⟩ := a4
    exact ⟨by rw [h.1 _ _ (by omega)]; exact g1, by rw [h.1 _ _ (by omega)]; exact g2, by rw [h.1 _ _ (by omega)]; exact g3, by rw [h.1 _ _ (by omega)]; exact g4⟩
theorem rep_addM {c : Nat} (hP : MP σ R s) (h1 : τ.1 45 (4 * R.2.2.2.2.length) = nI (candD R.2.1 c)) (h2 : τ.1 45 (4 * R.2.2.2.2.length + 2) = iz (candF R.2.1 c)) (hF : MmF R.2.2.2.2.length σ τ) (hc : c < R.2.1 + 4) : RepM τ (addK R (candK R.2.1 c)) := by
  have hK := hP.2.2.1.n9
  obtain ⟨⟨q0, q1, q2, q3, q4, q5⟩, b2, -⟩ := hF.mp hP
  have hcd : candD R.2.1 c < 6 := by unfold candD; split <;> omega
  have hix : ∀ (i : Nat) (k : Ky), (R.2.2.2.2 ++ [candK R.2.1 c])[i]? = some k → R.2.2.2.2[i]? = some k ∨ (i = R.2.2.2.2.length ∧ k = candK R.2.1 c) := fun i k hi => by
    rcases Nat.lt_or_ge i R.2.2.2.2.length with h | h
    · rw [List.getElem?_append_left h] at hi
      exact Or.inl hi
    · rw [List.getElem?_append_right h] at hi
      have hz : i - R.2.2.2.2.length = 0 := by
        rcases Nat.eq_zero_or_pos (i - R.2.2.2.2.length) with h | h
        · exact h
        · rw [List.getElem?_eq_none (by simp; omega)] at hi; cases hi
      rw [hz] at hi
      exact Or.inr ⟨by omega, by simpa using hi.symm⟩
  refine ⟨q0, q1, q2, q3, fun i k hi hlt => ?_, fun i k hi => ?_⟩
  · rcases hix i k hi with hi | ⟨rfl, rfl⟩
    · exact q4 i k hi hlt
    · rw [b2] at hlt
      exact absurd hlt (nI_nlt (Nat.le_refl _) (by omega))
  · rcases hix i k hi with hi | ⟨rfl, rfl⟩
    · exact q5 i k hi
    · exact ⟨h1, h2, fun h6 => absurd (show 6 ≤ candD R.2.1 c from h6) (by omega)⟩
theorem ok_mmore {x : Int32} (hP : MP σ R s) (hT : MRT σ tg) (hl : tg.length ≤ 6) (ht : ∀ v ∈ tg, v < R.2.2.2.1) (hQ : ∀ τ, MmF R.2.2.2.2.length σ τ → Q (some (.int (moAns R s tg x.toInt))) τ) : Ok (D + 6) mX12_more [.ref 44, .int x] σ Q := by
  obtain ⟨hM, h4, hv, hS, hs⟩ := id hP
  have hm2 := hv.m100
  have hK := hv.n9
  obtain ⟨x1, x2⟩ := iz_rng x
  have hxe := iz_of x
  generalize hxi : x.toInt = xi at *
  subst hxe
  unfold moAns at hQ
  have hmain : 0 < R.2.2.2.1 → (0 ≤ xi ∧ xi ≤ 2) → ∀ j c τ x5 x6, c + j = R.2.1 + 4 → MmF R.2.2.2.2.length σ τ → V mX12_more (D + 6) 30 [some (.ref 44), some (.int (iz xi)), some (.int (if c = 0 then -1 else nI (moI (moF R s tg) c))), some (.int (if c = 0 then 0 else iz (moF R s tg (moI (moF R s tg) c)))), some (.int (nI c)), x5, x6] [] τ Q := by
    intro hm hx j
    have hb10 : R.2.1 ≤ 10 ∧ 2 ≤ R.2.1 := by
      rcases hv with e | ⟨v1, v2, v3, v4, v5, v6, v7, v8, v9⟩
      · rw [e] at hm; exact absurd hm (by decide)
      · exact ⟨v3, v2⟩
    have hfr : ∀ c, c < R.2.1 + 4 → 0 ≤ moF R s tg c ∧ moF R s tg c ≤ 361206 := fun c hc => by
      have h9 := candK_v hv hm hc
      have := sumT_rng (f := fewS (addK R (candK R.2.1 c)) s) (fun v => few_rng (v := v) h9 hm hm2 hs) tg
      unfold moF
      omega
    induction j with
    | zero =>
      intro c τ x5 x6 hc hF
      obtain ⟨hM2, h42, -, hS2, -⟩ := hF.mp hP
      obtain rfl : c = R.2.1 + 4 := by omega
      have h9 := hQ τ hF
      rw [if_neg (by omega), if_neg (by omega)] at h9
      rw [if_neg (by omega), if_neg (by omega)]
      have hml := moI_lt (f := moF R s tg) (R.2.1 + 4) (by omega)
      generalize hI : moI (moF R s tg) (R.2.1 + 4) = I at *
      refine v_iload dX12_more_30 rfl ?_
      refine v_aload_n dX12_more_32 rfl ?_
      refine v_getI dX12_more_33 fl_RX12_176 rfl ?_
      rw [hM2.2.1]
      refine v_iconst dX12_more_36 ?_
      refine v_iadd dX12_more_37 ?_
      rw [show (4 : Int32) = nI 4 from rfl, nI_add]
      refine v_icmp_ge dX12_more_38 (fun zc38 => ?_) (fun zc38 => ?_)
      · refine v_iload_n dX12_more_162 rfl ?_
        refine v_iconst dX12_more_163 ?_
        refine v_icmp_ne dX12_more_164 (fun zc164 => ?_) (fun zc164 => ?_)
        · simp (disch := omega) only [iz_lit, iz_eq] at zc164
          refine v_iload_n dX12_more_171 rfl ?_
          refine v_if_ne dX12_more_172 (fun zc172 => ?_) (fun zc172 => ?_)
          · simp (disch := omega) only [iz_lit, iz_eq] at zc172
            refine v_iload_n dX12_more_198 rfl ?_
            refine v_aload_n dX12_more_199 rfl ?_
            refine v_getI dX12_more_200 fl_RX12_176 rfl ?_
            rw [hM2.2.1]
            refine v_icmp_ge dX12_more_203 (fun zc203 => ?_) (fun zc203 => ?_)
            · rw [nI_leI (by omega) (by omega)] at zc203
              refine v_iconst dX12_more_210 ?_
              refine v_ireturn dX12_more_211 rfl (rfl) ?_
              first | (rw [if_pos zc164] at h9; exact h9) | (rw [if_neg zc164, if_pos zc172, show candD R.2.1 I = I - R.2.1 + 1 by unfold candD; rw [if_neg (by omega)]] at h9; exact h9) | (rw [if_neg zc164, if_pos zc172, show candD R.2.1 I = 0 by unfold candD; rw [if_pos (by omega)]] at h9; exact h9) | (rw [if_neg zc164, if_neg zc172, show candF R.2.1 I = -1 by unfold candF; rw [if_neg (by omega)]] at h9; exact h9) | (rw [if_neg zc164, if_neg zc172, show candF R.2.1 I = (I : Int) by unfold candF; rw [if_pos (by omega)], ← iz_nI] at h9; exact h9)
            · rw [nI_leI (by omega) (by omega)] at zc203
              refine v_iload_n dX12_more_206 rfl ?_
              refine v_goto dX12_more_207 ?_
              refine v_ireturn dX12_more_211 rfl (rfl) ?_
              first | (rw [if_pos zc164] at h9; exact h9) | (rw [if_neg zc164, if_pos zc172, show candD R.2.1 I = I - R.2.1 + 1 by unfold candD; rw [if_neg (by omega)]] at h9; exact h9) | (rw [if_neg zc164, if_pos zc172, show candD R.2.1 I = 0 by unfold candD; rw [if_pos (by omega)]] at h9; exact h9) | (rw [if_neg zc164, if_neg zc172, show candF R.2.1 I = -1 by unfold candF; rw [if_neg (by omega)]] at h9; exact h9) | (rw [if_neg zc164, if_neg zc172, show candF R.2.1 I = (I : Int) by unfold candF; rw [if_pos (by omega)], ← iz_nI] at h9; exact h9)
          · simp (disch := omega) only [iz_lit, iz_eq] at zc172
            refine v_iload_n dX12_more_175 rfl ?_
            refine v_aload_n dX12_more_176 rfl ?_
            refine v_getI dX12_more_177 fl_RX12_176 rfl ?_
            rw [hM2.2.1]
            refine v_icmp_ge dX12_more_180 (fun zc180 => ?_) (fun zc180 => ?_)
            · rw [nI_leI (by omega) (by omega)] at zc180
              refine v_iload_n dX12_more_187 rfl ?_
              refine v_aload_n dX12_more_188 rfl ?_
              refine v_getI dX12_more_189 fl_RX12_176 rfl ?_
              rw [hM2.2.1]
              refine v_isub dX12_more_192 ?_
              refine v_iconst dX12_more_193 ?_
              refine v_iadd dX12_more_194 ?_
              rw [pk_sub (by omega), nI_1]
              refine v_goto dX12_more_195 ?_
              refine v_ireturn dX12_more_211 rfl (rfl) ?_
              first | (rw [if_pos zc164] at h9; exact h9) | (rw [if_neg zc164, if_pos zc172, show candD R.2.1 I = I - R.2.1 + 1 by unfold candD; rw [if_neg (by omega)]] at h9; exact h9) | (rw [if_neg zc164, if_pos zc172, show candD R.2.1 I = 0 by unfold candD; rw [if_pos (by omega)]] at h9; exact h9) | (rw [if_neg zc164, if_neg zc172, show candF R.2.1 I = -1 by unfold candF; rw [if_neg (by omega)]] at h9; exact h9) | (rw [if_neg zc164, if_neg zc172, show candF R.2.1 I = (I : Int) by unfold candF; rw [if_pos (by omega)], ← iz_nI] at h9; exact h9)
            · rw [nI_leI (by omega) (by omega)] at zc180
              refine v_iconst dX12_more_183 ?_
              refine v_goto dX12_more_184 ?_
              refine v_ireturn dX12_more_211 rfl (rfl) ?_
              first | (rw [if_pos zc164] at h9; exact h9) | (rw [if_neg zc164, if_pos zc172, show candD R.2.1 I = I - R.2.1 + 1 by unfold candD; rw [if_neg (by omega)]] at h9; exact h9) | (rw [if_neg zc164, if_pos zc172, show candD R.2.1 I = 0 by unfold candD; rw [if_pos (by omega)]] at h9; exact h9) | (rw [if_neg zc164, if_neg zc172, show candF R.2.1 I = -1 by unfold candF; rw [if_neg (by omega)]] at h9; exact h9) | (rw [if_neg zc164, if_neg zc172, show candF R.2.1 I = (I : Int) by unfold candF; rw [if_pos (by omega)], ← iz_nI] at h9; exact h9)
        · simp (disch := omega) only [iz_lit, iz_eq] at zc164
          refine v_iload_n dX12_more_167 rfl ?_
          refine v_goto dX12_more_168 ?_
          refine v_ireturn dX12_more_211 rfl (rfl) ?_
          first | (rw [if_pos zc164] at h9; exact h9) | (rw [if_neg zc164, if_pos zc172, show candD R.2.1 I = I - R.2.1 + 1 by unfold candD; rw [if_neg (by omega)]] at h9; exact h9) | (rw [if_neg zc164, if_pos zc172, show candD R.2.1 I = 0 by unfold candD; rw [if_pos (by omega)]] at h9; exact h9) | (rw [if_neg zc164, if_neg zc172, show candF R.2.1 I = -1 by unfold candF; rw [if_neg (by omega)]] at h9; exact h9) | (rw [if_neg zc164, if_neg zc172, show candF R.2.1 I = (I : Int) by unfold candF; rw [if_pos (by omega)], ← iz_nI] at h9; exact h9)
      · exact absurd (nI_le (Nat.le_refl _) (by omega)) zc38
    | succ j ih =>
      intro c τ x5 x6 hc hF
      have hcl : c < R.2.1 + 4 := by omega
      have hfc := hfr c hcl
      have hcd : candD R.2.1 c < 6 := by unfold candD; split <;> omega
      have hcf : -1 ≤ candF R.2.1 c ∧ candF R.2.1 c < 100 := by unfold candF; split <;> omega
      -- the sum is known
      have t114 : ∀ τ, MmF R.2.2.2.2.length σ τ → V mX12_more (D + 6) 114 [some (.ref 44), some (.int (iz xi)), some (.int (if c = 0 then -1 else nI (moI (moF R s tg) c))), some (.int (if c = 0 then 0 else iz (moF R s tg (moI (moF R s tg) c)))), some (.int (nI c)), some (.int (iz (moF R s tg c))), x6] [] τ Q := by
        intro τ hF
        have y130 : (c = 0 ∨ moF R s tg c < moF R s tg (moI (moF R s tg) c)) → ∀ b l : Int32, V mX12_more (D + 6) 130 [some (.ref 44), some (.int (iz xi)), some (.int b), some (.int l), some (.int (nI c)), some (.int (iz (moF R s tg c))), x6] [.int 1] τ Q := by
          intro h b l
          have e : moI (moF R s tg) (c + 1) = c := by
            rw [moI_s]
            by_cases h0 : c = 0
            · rw [if_pos h0, h0]
            · rw [if_neg h0, if_pos (h.resolve_left h0)]
          have h5 := ih (c + 1) τ (some (.int (iz (moF R s tg c)))) (some (.int 1)) (by omega) hF
          rw [if_neg (by omega), if_neg (by omega), e] at h5
          refine v_istore dX12_more_130 (Nat.le_of_ble_eq_true rfl) rfl ?_
          refine v_iload dX12_more_132 rfl ?_
          refine v_if_eq dX12_more_134 (fun zc134 => ?_) (fun zc134 => ?_)
          · exact absurd zc134 (by decide)
          · refine v_iload dX12_more_137 rfl ?_
            refine v_goto dX12_more_139 ?_
            refine v_istore_n dX12_more_143 (Nat.le_of_ble_eq_true rfl) rfl ?_
            refine v_iload dX12_more_144 rfl ?_
            refine v_if_eq dX12_more_146 (fun zc146 => ?_) (fun zc146 => ?_)
            · exact absurd zc146 (by decide)
            · refine v_iload dX12_more_149 rfl ?_
              refine v_goto dX12_more_151 ?_
              refine v_istore_n dX12_more_155 (Nat.le_of_ble_eq_true rfl) rfl ?_
              refine v_iinc dX12_more_156 rfl (Nat.le_of_ble_eq_true rfl) rfl ?_
              refine v_goto dX12_more_159 ?_
              rw [nI_1]
              exact h5
        have n130 : 0 < c → ¬ moF R s tg c < moF R s tg (moI (moF R s tg) c) → V mX12_more (D + 6) 130 [some (.ref 44), some (.int (iz xi)), some (.int (nI (moI (moF R s tg) c))), some (.int (iz (moF R s tg (moI (moF R s tg) c)))), some (.int (nI c)), some (.int (iz (moF R s tg c))), x6] [.int 0] τ Q := by
          intro h0 h
          have e : moI (moF R s tg) (c + 1) = moI (moF R s tg) c := by
            rw [moI_s, if_neg (by omega), if_neg h]
          have h5 := ih (c + 1) τ (some (.int (iz (moF R s tg c)))) (some (.int 0)) (by omega) hF
          rw [if_neg (by omega), if_neg (by omega), e] at h5
          refine v_istore dX12_more_130 (Nat.le_of_ble_eq_true rfl) rfl ?_
          refine v_iload dX12_more_132 rfl ?_
          refine v_if_eq dX12_more_134 (fun zc134 => ?_) (fun zc134 => ?_)
          · refine v_iload_n dX12_more_142 rfl ?_
            refine v_istore_n dX12_more_143 (Nat.le_of_ble_eq_true rfl) rfl ?_
            refine v_iload dX12_more_144 rfl ?_
            refine v_if_eq dX12_more_146 (fun zc146 => ?_) (fun zc146 => ?_)
            · refine v_iload_n dX12_more_154 rfl ?_
              refine v_istore_n dX12_more_155 (Nat.le_of_ble_eq_true rfl) rfl ?_
              refine v_iinc dX12_more_156 rfl (Nat.le_of_ble_eq_true rfl) rfl ?_
              refine v_goto dX12_more_159 ?_
              rw [nI_1]
              exact h5
            · exact absurd rfl zc146
          · exact absurd rfl zc134
        rcases Nat.eq_zero_or_pos c with h0 | h0
        · rw [if_pos h0, if_pos h0]
          have hy := y130 (Or.inl h0) (-1) 0
          refine v_iload_n dX12_more_114 rfl ?_
          refine v_iconst dX12_more_115 ?_
          refine v_icmp_eq dX12_more_116 (fun zc116 => ?_) (fun zc116 => ?_)
          · refine v_iconst dX12_more_125 ?_
            refine v_goto dX12_more_126 ?_
            exact hy
          · exact absurd rfl zc116
        · rw [if_neg (by omega), if_neg (by omega)]
          have hml := moI_lt (f := moF R s tg) c h0
          have hfm := hfr (moI (moF R s tg) c) (by omega)
          refine v_iload_n dX12_more_114 rfl ?_
          refine v_iconst dX12_more_115 ?_
          refine v_icmp_eq dX12_more_116 (fun zc116 => ?_) (fun zc116 => ?_)
          · exact absurd zc116 (by rw [iz_nI, show (-1 : Int32) = iz (-1) from rfl, iz_eq (by omega) (by omega) (by omega) (by omega)]; omega)
          · refine v_iload dX12_more_119 rfl ?_
            refine v_iload_n dX12_more_121 rfl ?_
            refine v_icmp_ge dX12_more_122 (fun zc122 => ?_) (fun zc122 => ?_)
            · rw [iz_le (by omega) (by omega) (by omega) (by omega)] at zc122
              refine v_iconst dX12_more_129 ?_
              first | exact n130 h0 (by omega) | exact y130 (Or.inr (by omega)) _ _
            · rw [iz_le (by omega) (by omega) (by omega) (by omega)] at zc122
              refine v_iconst dX12_more_125 ?_
              refine v_goto dX12_more_126 ?_
              first | exact n130 h0 (by omega) | exact y130 (Or.inr (by omega)) _ _
      obtain ⟨hM2, h42, -, hS2, -⟩ := hF.mp hP
      have t101 : V mX12_more (D + 6) 101 [some (.ref 44), some (.int (iz xi)), some (.int (if c = 0 then -1 else nI (moI (moF R s tg) c))), some (.int (if c = 0 then 0 else iz (moF R s tg (moI (moF R s tg) c)))), some (.int (nI c)), x5, x6] [.int (iz (candF R.2.1 c)), .int (nI (4 * R.2.2.2.2.length + 2)), .ref 45] (setI τ 45 (4 * R.2.2.2.2.length) (nI (candD R.2.1 c))) Q := by
        have hF2 : MmF R.2.2.2.2.length σ (setI (setI τ 45 (4 * R.2.2.2.2.length) (nI (candD R.2.1 c))) 45 (4 * R.2.2.2.2.length + 2) (iz (candF R.2.1 c))) := ⟨fun a b h => by rw [setI_ne (by omega), setI_ne (by omega)]; exact hF.1 a b h, hF.2⟩
        have hadd := rep_addM (c := c) hP (τ := setI (setI τ 45 (4 * R.2.2.2.2.length) (nI (candD R.2.1 c))) 45 (4 * R.2.2.2.2.length + 2) (iz (candF R.2.1 c))) (by rw [setI_ne (by omega), setI_same]) (by rw [setI_same]) hF2 hcl
        have hl1 : (addK R (candK R.2.1 c)).2.2.2.2.length = R.2.2.2.2.length + 1 := by show (R.2.2.2.2 ++ [candK R.2.1 c]).length = _; rw [List.length_append]; rfl
        have hal := fun hq => ok_allFewest (D := D) (R := addK R (candK R.2.1 c)) (s := s) (tg := tg) (Q := hq) hadd (candK_v hv hm hcl) hm (hF2.mp hP).2.2.2.1 hs ⟨by rw [hF2.1 _ _ (by omega)]; exact hT.1, fun i v hi => by rw [hF2.1 _ _ (by omega)]; exact hT.2 i v hi⟩ hl ht
        rw [hl1] at hal
        refine v_iastore dX12_more_101 rfl (by exact vp_in_nI (by omega) (by omega)) ?_
        rw [nI_clamp (by omega)]
        refine v_aload_n dX12_more_102 rfl ?_
        refine v_aload_n dX12_more_103 rfl ?_
        refine v_getI dX12_more_104 fl_RX12_182 rfl ?_
        rw [(hF2.mp hP).2.1]
        refine v_iconst dX12_more_107 ?_
        refine v_iadd dX12_more_108 ?_
        rw [nI_1]
        refine v_callV1 dX12_more_109 mv_RX12_259 rfl rfl (Nat.le_of_ble_eq_true rfl) ?_
        refine hal _ (fun τ2 f => ?_)
        show V _ _ _ _ (_ :: _) _ _
        refine v_istore dX12_more_112 (Nat.le_of_ble_eq_true rfl) rfl ?_
        exact t114 τ2 ⟨fun a b h => by rw [f.1 a b (by omega)]; exact hF2.1 a b h, by rw [f.2]; exact hF2.2⟩
      have t73 : V mX12_more (D + 6) 73 [some (.ref 44), some (.int (iz xi)), some (.int (if c = 0 then -1 else nI (moI (moF R s tg) c))), some (.int (if c = 0 then 0 else iz (moF R s tg (moI (moF R s tg) c)))), some (.int (nI c)), x5, x6] [.int (nI (candD R.2.1 c)), .int (nI (4 * R.2.2.2.2.length)), .ref 45] τ Q := by
        refine v_iastore dX12_more_73 rfl (by exact vp_in_nI (by omega) (by omega)) ?_
        rw [nI_clamp (by omega)]
        refine v_aload_n dX12_more_74 rfl ?_
        refine v_getR (q := 45) dX12_more_75 fl_RX12_13 rfl rfl ?_
        refine v_iconst dX12_more_78 ?_
        refine v_aload_n dX12_more_79 rfl ?_
        refine v_getI dX12_more_80 fl_RX12_182 rfl ?_
        rw [setI_ne (by omega), h42]
        refine v_imul dX12_more_83 ?_
        rw [show (4 : Int32) = nI 4 from rfl, pk_mul]
        refine v_iconst dX12_more_84 ?_
        refine v_iadd dX12_more_85 ?_
        rw [show (2 : Int32) = nI 2 from rfl, nI_add]
        refine v_iload dX12_more_86 rfl ?_
        refine v_aload_n dX12_more_88 rfl ?_
        refine v_getI dX12_more_89 fl_RX12_176 rfl ?_
        rw [setI_ne (by omega), hM2.2.1]
        refine v_icmp_ge dX12_more_92 (fun zc92 => ?_) (fun zc92 => ?_)
        · rw [nI_leI (by omega) (by omega)] at zc92
          refine v_iconst dX12_more_100 ?_
          have h5 := t101
          first | (rw [show candF R.2.1 c = -1 by unfold candF; rw [if_neg (by omega)]] at h5; exact h5) | (rw [show candF R.2.1 c = (c : Int) by unfold candF; rw [if_pos (by omega)], ← iz_nI] at h5; exact h5)
        · rw [nI_leI (by omega) (by omega)] at zc92
          refine v_iload dX12_more_95 rfl ?_
          refine v_goto dX12_more_97 ?_
          have h5 := t101
          first | (rw [show candF R.2.1 c = -1 by unfold candF; rw [if_neg (by omega)]] at h5; exact h5) | (rw [show candF R.2.1 c = (c : Int) by unfold candF; rw [if_pos (by omega)], ← iz_nI] at h5; exact h5)
      refine v_iload dX12_more_30 rfl ?_
      refine v_aload_n dX12_more_32 rfl ?_
      refine v_getI dX12_more_33 fl_RX12_176 rfl ?_
      rw [hM2.2.1]
      refine v_iconst dX12_more_36 ?_
      refine v_iadd dX12_more_37 ?_
      rw [show (4 : Int32) = nI 4 from rfl, nI_add]
      refine v_icmp_ge dX12_more_38 (fun zc38 => ?_) (fun zc38 => ?_)
      · exact absurd zc38 (nI_ge (by omega) (by omega))
      · refine v_aload_n dX12_more_41 rfl ?_
        refine v_getR (q := 45) dX12_more_42 fl_RX12_13 rfl rfl ?_
        refine v_iconst dX12_more_45 ?_
        refine v_aload_n dX12_more_46 rfl ?_
        refine v_getI dX12_more_47 fl_RX12_182 rfl ?_
        rw [h42]
        refine v_imul dX12_more_50 ?_
        rw [show (4 : Int32) = nI 4 from rfl, pk_mul]
        refine v_iload dX12_more_51 rfl ?_
        refine v_aload_n dX12_more_53 rfl ?_
        refine v_getI dX12_more_54 fl_RX12_176 rfl ?_
        rw [hM2.2.1]
        refine v_icmp_ge dX12_more_57 (fun zc57 => ?_) (fun zc57 => ?_)
        · rw [nI_leI (by omega) (by omega)] at zc57
          refine v_iload dX12_more_64 rfl ?_
          refine v_aload_n dX12_more_66 rfl ?_
          refine v_getI dX12_more_67 fl_RX12_176 rfl ?_
          rw [hM2.2.1]
          refine v_isub dX12_more_70 ?_
          refine v_iconst dX12_more_71 ?_
          refine v_iadd dX12_more_72 ?_
          have h5 := t73
          first | (rw [show candD R.2.1 c = c - R.2.1 + 1 by unfold candD; rw [if_neg (by omega)]] at h5; rw [pk_sub (by omega), nI_1]; exact h5) | (rw [show candD R.2.1 c = 0 by unfold candD; rw [if_pos (by omega)]] at h5; exact h5)
        · rw [nI_leI (by omega) (by omega)] at zc57
          refine v_iconst dX12_more_60 ?_
          refine v_goto dX12_more_61 ?_
          have h5 := t73
          first | (rw [show candD R.2.1 c = c - R.2.1 + 1 by unfold candD; rw [if_neg (by omega)]] at h5; rw [pk_sub (by omega), nI_1]; exact h5) | (rw [show candD R.2.1 c = 0 by unfold candD; rw [if_pos (by omega)]] at h5; exact h5)
  have h0 := hQ σ ⟨fun _ _ _ => rfl, rfl⟩
  refine ok_enter rfl (Nat.le_of_ble_eq_true rfl) ?_
  refine v_iload_n dX12_more_0 rfl ?_
  refine v_iconst dX12_more_1 ?_
  refine v_iconst dX12_more_2 ?_
  refine v_callS3 dX12_more_3 ms_RX12_68 (Nat.le_of_ble_eq_true rfl) ?_
  refine ok_in ?_
  rw [show (0 : Int32).toInt = 0 from rfl, show (2 : Int32).toInt = 2 from rfl, iz_toInt (by omega) (by omega)]
  show V _ _ _ _ (_ :: _) _ _
  refine v_if_ne dX12_more_6 (fun zc6 => ?_) (fun zc6 => ?_)
  · have hx := if10 zc6
    refine v_aload_n dX12_more_12 rfl ?_
    refine v_getI dX12_more_13 fl_RX12_65 rfl ?_
    rw [hM.2.2.2.1]
    refine v_if_ne dX12_more_16 (fun zc16 => ?_) (fun zc16 => ?_)
    · rw [show (0 : Int32) = nI 0 from rfl, nI_eq (by omega) (by omega)] at zc16
      refine v_iconst dX12_more_23 ?_
      refine v_istore_n dX12_more_24 (Nat.le_of_ble_eq_true rfl) rfl ?_
      refine v_iconst dX12_more_25 ?_
      refine v_istore_n dX12_more_26 (Nat.le_of_ble_eq_true rfl) rfl ?_
      refine v_iconst dX12_more_27 ?_
      refine v_istore dX12_more_28 (Nat.le_of_ble_eq_true rfl) rfl ?_
      exact hmain (by omega) hx (R.2.1 + 4) 0 σ _ _ (by omega) ⟨fun _ _ _ => rfl, rfl⟩
    · rw [show (0 : Int32) = nI 0 from rfl, nI_eq (by omega) (by omega)] at zc16
      refine v_ldcw dX12_more_19 cn_RX12_258 ?_
      refine v_ireturn dX12_more_22 rfl (rfl) ?_
      rw [if_neg (by omega), if_pos zc16] at h0
      exact h0
  · have hx := if01 zc6
    refine v_ldc dX12_more_9 cn_RX12_72 ?_
    refine v_ireturn dX12_more_11 rfl (rfl) ?_
    rw [if_pos (by omega)] at h0
    exact h0
end MM
