/-! ===== one key more: the class ===== -/
def RepT (σ : Wd) (p : Nat) (tg : List Nat) : Prop := σ.1 p 3 = nI tg.length ∧ ∀ (i v : Nat), tg[i]? = some v → σ.1 (p + 1) i = nI v
def TgFr (σ τ : Wd) : Prop := (∀ a b, ¬ (a = 24 ∨ a = 25 ∨ a = 27 ∨ a = 28 ∨ a = 29 ∨ (a = 22 ∧ (b = 3 ∨ b = 4)) ∨ (a = 26 ∧ b = 4)) → τ.1 a b = σ.1 a b) ∧ τ.2.2 = σ.2.2 ∧ ∀ a, a ≠ 23 → τ.2.1 a = σ.2.1 a
def TaF (σ τ : Wd) : Prop := (∀ a b, ¬ (a = 29 ∨ (a = 26 ∧ b = 4)) → τ.1 a b = σ.1 a b) ∧ τ.2 = σ.2
section CM
variable {D : Nat} {σ τ υ : Wd} {Q : Option Value → Wd → Prop} {R : Rk} {s : St} {r n : Nat} {tg : List Nat}
theorem cnt_add {p : Nat → Bool} {v : Nat} (hp : p v = false) : ∀ m, (List.range m).countP (fun x => decide (x = v) || p x) = (List.range m).countP p + if v < m then 1 else 0
  | 0 => rfl
  | m + 1 => by
    rw [List.range_succ, List.countP_append, List.countP_append, cnt_add hp m, List.countP_singleton, List.countP_singleton]
    by_cases h : m = v
    · subst h
      rw [if_neg (show ¬ m < m by omega), if_pos (show m < m + 1 by omega), hp]
      simp
    · have e : (decide (m = v) || p m) = p m := by simp [h]
      rw [e]
      by_cases h2 : v < m
      · rw [if_pos h2, if_pos (show v < m + 1 by omega)]
        omega
      · rw [if_neg h2, if_neg (show ¬ v < m + 1 by omega)]; rfl
theorem ok_together (hr : vIsR r) (hR : RepR σ r R) (hv : vR 9 R) (hm : 0 < R.2.2.2.1) (hs : vS R.2.2.2.1 s) (hp0 : σ.1 13 0 = nI (ps s)) (hT : RepT σ 13 tg) (hl : tg.length ≤ 6) (ht : ∀ v ∈ tg, v < R.2.2.2.1) (hQ : ∀ τ, TgFr σ τ → τ.1 22 4 = 0 → Q (some (.int (iz (sumT (fewS R s) tg)))) τ) : Ok (D + 5) mX8_together [.ref 26, .ref r, .ref 13] σ Q := by
  have hm2 := hv.m100
  have hr12 : r + 4 < 13 ∧ 3 ≤ r := by rcases hr with rfl | rfl <;> omega
  have hfr := fun v => few_rng (v := v) hv hm hm2 hs
  have sum : ∀ τ, TgFr σ τ → τ.1 22 4 = 0 → (∀ v ∈ tg, τ.1 27 v = iz (fewS R s v)) → ∀ j i (acc : Int) x5, i + j = tg.length → 0 ≤ acc → acc ≤ 60201 * i → acc + sumT (fewS R s) (tg.drop i) = sumT (fewS R s) tg → V mX8_together (D + 5) 85 [some (.ref 26), some (.ref r), some (.ref 13), some (.int (iz acc)), some (.int (nI i)), x5] [] τ Q := by
    intro τ hF h4 hw j
    have hTc : τ.1 13 3 = nI tg.length := by rw [hF.1 _ _ (by omega)]; exact hT.1
    induction j with
    | zero =>
      intro i acc x5 hi a1 a2 he
      rw [List.drop_of_length_le (by omega)] at he
      have he2 : acc = sumT (fewS R s) tg := by rw [← he]; show acc = acc + 0; omega
      refine v_iload dX8_together_85 rfl ?_
      refine v_aload_n dX8_together_87 rfl ?_
      refine v_getI dX8_together_88 fl_RX8_129 rfl ?_
      rw [hTc]
      refine v_icmp_ge dX8_together_91 (fun zc91 => ?_) (fun zc91 => ?_)
      · refine v_iload_n dX8_together_131 rfl ?_
        refine v_ireturn dX8_together_132 rfl (rfl) ?_
        rw [he2]
        exact hQ τ hF h4
      · exact absurd (nI_le (by omega) (by omega)) zc91
    | succ j ih =>
      intro i acc x5 hi a1 a2 he
      have hil : i < tg.length := by omega
      have hti : τ.1 14 i = nI tg[i] := by rw [hF.1 _ _ (by omega)]; exact hT.2 i _ (List.getElem?_eq_getElem hil)
      have hvm := ht _ (List.getElem_mem hil)
      have hwv := hw _ (List.getElem_mem hil)
      have hfv := hfr tg[i]
      rw [List.drop_eq_getElem_cons hil] at he
      have he2 : acc + ((if fewS R s tg[i] = -1 then 99 else fewS R s tg[i]) + sumT (fewS R s) (tg.drop (i + 1))) = sumT (fewS R s) tg := he
      refine v_iload dX8_together_85 rfl ?_
      refine v_aload_n dX8_together_87 rfl ?_
      refine v_getI dX8_together_88 fl_RX8_129 rfl ?_
      rw [hTc]
      refine v_icmp_ge dX8_together_91 (fun zc91 => ?_) (fun zc91 => ?_)
      · exact absurd zc91 (nI_ge (by omega) (by omega))
      · refine v_aload_n dX8_together_94 rfl ?_
        refine v_aload_n dX8_together_95 rfl ?_
        refine v_getR (q := 14) dX8_together_96 fl_RX8_134 rfl rfl ?_
        refine v_iload dX8_together_99 rfl ?_
        refine v_callS2 dX8_together_101 ms_RX8_68 (Nat.le_of_ble_eq_true rfl) ?_
        refine ok_at rfl (by decide) ?_
        rw [vAt_nI (by omega) (by omega), hti]
        show V _ _ _ _ (_ :: _) _ _
        refine v_callV1 dX8_together_104 mv_RX8_72 rfl rfl (Nat.le_of_ble_eq_true rfl) ?_
        refine ok_to ?_
        rw [vAt_nI (by omega) (by omega), hwv]
        show V _ _ _ _ (_ :: _) _ _
        refine v_istore dX8_together_107 (Nat.le_of_ble_eq_true rfl) rfl ?_
        refine v_iload_n dX8_together_109 rfl ?_
        refine v_iload dX8_together_110 rfl ?_
        refine v_iconst dX8_together_112 ?_
        refine v_icmp_ne dX8_together_113 (fun zc113 => ?_) (fun zc113 => ?_)
        · rw [show (-1 : Int32) = iz (-1) from rfl, iz_eq (by omega) (by omega) (by omega) (by omega)] at zc113
          refine v_iload dX8_together_121 rfl ?_
          refine v_iadd dX8_together_123 ?_
          refine v_istore_n dX8_together_124 (Nat.le_of_ble_eq_true rfl) rfl ?_
          refine v_iinc dX8_together_125 rfl (Nat.le_of_ble_eq_true rfl) rfl ?_
          refine v_goto dX8_together_128 ?_
          rw [nI_1]
          first | (rw [show (99 : Int32) = iz 99 from rfl, iz_add]; rw [if_pos zc113] at he2; exact ih (i + 1) _ _ (by omega) (by omega) (by omega) (by omega)) | (rw [iz_add]; rw [if_neg zc113] at he2; exact ih (i + 1) _ _ (by omega) (by omega) (by omega) (by omega))
        · rw [show (-1 : Int32) = iz (-1) from rfl, iz_eq (by omega) (by omega) (by omega) (by omega)] at zc113
          refine v_bipush dX8_together_116 ?_
          refine v_goto dX8_together_118 ?_
          refine v_iadd dX8_together_123 ?_
          refine v_istore_n dX8_together_124 (Nat.le_of_ble_eq_true rfl) rfl ?_
          refine v_iinc dX8_together_125 rfl (Nat.le_of_ble_eq_true rfl) rfl ?_
          refine v_goto dX8_together_128 ?_
          rw [nI_1]
          first | (rw [show (99 : Int32) = iz 99 from rfl, iz_add]; rw [if_pos zc113] at he2; exact ih (i + 1) _ _ (by omega) (by omega) (by omega) (by omega)) | (rw [iz_add]; rw [if_neg zc113] at he2; exact ih (i + 1) _ _ (by omega) (by omega) (by omega) (by omega))
  have mark : ∀ j i τ x4 x5, i + j = tg.length → TaF σ τ → (∀ v, v < 100 → τ.1 29 v = if decide (v ∈ tg.take i) = true then 1 else 0) → τ.1 26 4 = nI ((List.range R.2.2.2.1).countP (fun v => decide (v ∈ tg.take i))) → V mX8_together (D + 5) 15 [some (.ref 26), some (.ref r), some (.ref 13), some (.int (nI i)), x4, x5] [] τ Q := by
    intro j
    induction j with
    | zero =>
      intro i τ x4 x5 hi hF hw hc
      have hTc : τ.1 13 3 = nI tg.length := by rw [hF.1 _ _ (by omega)]; exact hT.1
      rw [List.take_of_length_le (by omega)] at hw hc
      refine v_iload_n dX8_together_15 rfl ?_
      refine v_aload_n dX8_together_16 rfl ?_
      refine v_getI dX8_together_17 fl_RX8_129 rfl ?_
      rw [hTc]
      refine v_icmp_ge dX8_together_20 (fun zc20 => ?_) (fun zc20 => ?_)
      · refine v_aload_n dX8_together_71 rfl ?_
        refine v_aload_n dX8_together_72 rfl ?_
        refine v_aload_n dX8_together_73 rfl ?_
        refine v_getI dX8_together_74 fl_RX8_141 rfl ?_
        rw [hF.1 _ _ (by omega), hp0]
        refine v_callV2 dX8_together_77 mv_RX8_61 rfl rfl (Nat.le_of_ble_eq_true rfl) ?_
        refine ok_spread (W := fun v => decide (v ∈ tg)) hr (hR.kept (fun a b q1 q2 => hF.1 _ _ (by omega))) hv hm hs hc hw (fun τ2 f1 f2 => ?_)
        obtain ⟨q, q1, q2, q3, q4, q5, q6⟩ := f2
        have hF2 : TgFr σ τ2 := ⟨fun a b h => by rw [f1.1 a b (by omega)]; exact hF.1 a b (by omega), by rw [f1.2.2.1, hF.2], fun a h => by rw [f1.2.2.2 a h, hF.2]⟩
        have hw2 : ∀ v ∈ tg, τ2.1 27 v = iz (fewS R s v) := fun v hvt => by
          have hvm := ht v hvt
          have h6 := q6 v hvm (by simpa using hvt)
          cases hb : bfF v q with
          | some e => rw [((q5.2.1 v (by omega)).1 e hb).1, few_some (by rw [← h6]; exact hb), iz_nI]
          | none => rw [(q5.2.1 v (by omega)).2 hb, few_none (by rw [← h6]; exact hb)]; rfl
        show V _ _ _ _ _ _ _
        refine v_iconst dX8_together_80 ?_
        refine v_istore_n dX8_together_81 (Nat.le_of_ble_eq_true rfl) rfl ?_
        refine v_iconst dX8_together_82 ?_
        refine v_istore dX8_together_83 (Nat.le_of_ble_eq_true rfl) rfl ?_
        exact sum τ2 hF2 f1.2.1 hw2 tg.length 0 0 _ (by omega) (by omega) (by omega) (by rw [List.drop_zero]; omega)
      · exact absurd (nI_le (by omega) (by omega)) zc20
    | succ j ih =>
      intro i τ x4 x5 hi hF hw hc
      have hil : i < tg.length := by omega
      have hTc : τ.1 13 3 = nI tg.length := by rw [hF.1 _ _ (by omega)]; exact hT.1
      have hti : τ.1 14 i = nI tg[i] := by rw [hF.1 _ _ (by omega)]; exact hT.2 i _ (List.getElem?_eq_getElem hil)
      have hvm := ht _ (List.getElem_mem hil)
      have hwv := hw tg[i] (by omega)
      have etk : tg.take (i + 1) = tg.take i ++ [tg[i]] := by rw [List.take_succ, List.getElem?_eq_getElem hil]; rfl
      have em : ∀ v, (v ∈ tg.take (i + 1)) ↔ (v = tg[i] ∨ v ∈ tg.take i) := fun v => by
        rw [etk, List.mem_append, List.mem_singleton]
        exact Or.comm
      have hcl : (List.range R.2.2.2.1).countP (fun v => decide (v ∈ tg.take i)) ≤ 100 := by
        refine Nat.le_trans List.countP_le_length ?_
        rw [List.length_range]
        exact hm2
      refine v_iload_n dX8_together_15 rfl ?_
      refine v_aload_n dX8_together_16 rfl ?_
      refine v_getI dX8_together_17 fl_RX8_129 rfl ?_
      rw [hTc]
      refine v_icmp_ge dX8_together_20 (fun zc20 => ?_) (fun zc20 => ?_)
      · exact absurd zc20 (nI_ge (by omega) (by omega))
      · refine v_aload_n dX8_together_23 rfl ?_
        refine v_getR (q := 14) dX8_together_24 fl_RX8_134 rfl rfl ?_
        refine v_iload_n dX8_together_27 rfl ?_
        refine v_callS2 dX8_together_28 ms_RX8_68 (Nat.le_of_ble_eq_true rfl) ?_
        refine ok_at rfl (by decide) ?_
        rw [vAt_nI (by omega) (by omega), hti]
        show V _ _ _ _ (_ :: _) _ _
        refine v_istore dX8_together_31 (Nat.le_of_ble_eq_true rfl) rfl ?_
        refine v_aload_n dX8_together_33 rfl ?_
        refine v_getR (q := 29) dX8_together_34 fl_RX8_18 rfl rfl ?_
        refine v_iload dX8_together_37 rfl ?_
        refine v_callS2 dX8_together_39 ms_RX8_68 (Nat.le_of_ble_eq_true rfl) ?_
        refine ok_at rfl (by decide) ?_
        rw [vAt_nI (by omega) (by omega), hwv]
        show V _ _ _ _ (_ :: _) _ _
        refine v_if_ne dX8_together_42 (fun zc42 => ?_) (fun zc42 => ?_)
        · have hin : tg[i] ∈ tg.take i := by
            by_cases h : tg[i] ∈ tg.take i
            · exact h
            · rw [if_neg (by simpa using h)] at zc42; exact absurd rfl zc42
          have em2 : ∀ v, (v ∈ tg.take (i + 1)) ↔ v ∈ tg.take i := fun v => by
            rw [em]
            exact ⟨fun h => h.elim (fun e => by rw [e]; exact hin) id, Or.inr⟩
          refine v_iinc dX8_together_65 rfl (Nat.le_of_ble_eq_true rfl) rfl ?_
          refine v_goto dX8_together_68 ?_
          rw [nI_1]
          first | (refine ih (i + 1) τ _ _ (by omega) hF (fun v hv2 => ?_) ?_; (rw [hw v hv2]; simp only [em2]); (rw [hc]; simp only [em2]); done) | (refine ih (i + 1) _ _ _ (by omega) ⟨fun a b h => by rw [setI_ne (by omega), setI_ne (by omega)]; exact hF.1 a b h, hF.2⟩ (fun v hv2 => ?_) ?_; (rw [setI_ne (by omega)]; by_cases h : v = tg[i]; (rw [h, setI_same, if_pos (by simpa using (em tg[i]).mpr (Or.inl rfl))]); (rw [setI_ne (by omega), hw v hv2]; have e5 : (v ∈ tg.take (i + 1)) ↔ v ∈ tg.take i := (by rw [em]; exact ⟨fun h2 => h2.resolve_left h, Or.inr⟩); simp only [e5])); (rw [setI_same, ← hcn]; congr 2; funext v; rw [Bool.eq_iff_iff]; simp [em v]))
        · have hin : ¬ tg[i] ∈ tg.take i := fun h => by rw [if_pos (by simpa using h)] at zc42; exact absurd zc42 (by decide)
          have hcn := cnt_add (p := fun v => decide (v ∈ tg.take i)) (v := tg[i]) (by simpa using hin) R.2.2.2.1
          rw [if_pos hvm] at hcn
          refine v_aload_n dX8_together_45 rfl ?_
          refine v_getR (q := 29) dX8_together_46 fl_RX8_18 rfl rfl ?_
          refine v_iload dX8_together_49 rfl ?_
          refine v_iconst dX8_together_51 ?_
          refine v_callS3 dX8_together_52 ms_RX8_137 (Nat.le_of_ble_eq_true rfl) ?_
          refine ok_put rfl (by decide) ?_
          rw [wPut_nI (by omega) (by omega)]
          show V _ _ _ _ _ _ _
          refine v_aload_n dX8_together_55 rfl ?_
          refine v_dup dX8_together_56 rfl ?_
          refine v_getI dX8_together_57 fl_RX8_21 rfl ?_
          rw [setI_ne (by omega), hc]
          refine v_iconst dX8_together_60 ?_
          refine v_iadd dX8_together_61 ?_
          rw [nI_1]
          refine v_putI dX8_together_62 fp_RX8_21 rfl ?_
          refine v_iinc dX8_together_65 rfl (Nat.le_of_ble_eq_true rfl) rfl ?_
          refine v_goto dX8_together_68 ?_
          rw [nI_1]
          first | (refine ih (i + 1) τ _ _ (by omega) hF (fun v hv2 => ?_) ?_; (rw [hw v hv2]; simp only [em2]); (rw [hc]; simp only [em2]); done) | (refine ih (i + 1) _ _ _ (by omega) ⟨fun a b h => by rw [setI_ne (by omega), setI_ne (by omega)]; exact hF.1 a b h, hF.2⟩ (fun v hv2 => ?_) ?_; (rw [setI_ne (by omega)]; by_cases h : v = tg[i]; (rw [h, setI_same, if_pos (by simpa using (em tg[i]).mpr (Or.inl rfl))]); (rw [setI_ne (by omega), hw v hv2]; have e5 : (v ∈ tg.take (i + 1)) ↔ v ∈ tg.take i := (by rw [em]; exact ⟨fun h2 => h2.resolve_left h, Or.inr⟩); simp only [e5])); (rw [setI_same, ← hcn]; congr 2; funext v; rw [Bool.eq_iff_iff]; simp [em v]))
  refine ok_enter rfl (Nat.le_of_ble_eq_true rfl) ?_
  refine v_aload_n dX8_together_0 rfl ?_
  refine v_getR (q := 29) dX8_together_1 fl_RX8_18 rfl rfl ?_
  refine v_iconst dX8_together_4 ?_
  refine v_callS2 dX8_together_5 ms_RX8_50 (Nat.le_of_ble_eq_true rfl) ?_
  refine ok_fillI rfl (by decide) ?_
  show V _ _ _ _ _ _ _
  refine v_aload_n dX8_together_8 rfl ?_
  refine v_iconst dX8_together_9 ?_
  refine v_putI dX8_together_10 fp_RX8_21 rfl ?_
  refine v_iconst dX8_together_13 ?_
  refine v_istore_n dX8_together_14 (Nat.le_of_ble_eq_true rfl) rfl ?_
  refine mark tg.length 0 _ _ _ (by omega) ⟨fun a b h => by rw [setI_ne (by omega), fillI_o (by omega)], rfl⟩ (fun v hv2 => ?_) ?_
  · rw [setI_ne (by omega), fillI_i hv2, if_neg (by simp)]
  · rw [setI_same, List.take_zero]
    have e0 : (List.range R.2.2.2.1).countP (fun v => decide (v ∈ ([] : List Nat))) = 0 := by simp
    rw [e0]
    rfl
def LmF (r K : Nat) (σ τ : Wd) : Prop := (∀ a b, ¬ (a = 24 ∨ a = 25 ∨ a = 27 ∨ a = 28 ∨ a = 29 ∨ (a = 22 ∧ (b = 3 ∨ b = 4)) ∨ (a = 26 ∧ 4 ≤ b) ∨ (r + 1 ≤ a ∧ a ≤ r + 4 ∧ b = K)) → τ.1 a b = σ.1 a b) ∧ τ.2.2 = σ.2.2 ∧ ∀ a, a ≠ 23 → τ.2.1 a = σ.2.1 a
def MoC (σ : Wd) (R : Rk) (s : St) (tg : List Nat) : Prop := (σ.1 26 6 = 0 ∨ σ.1 26 6 = 1) ∧ (σ.1 26 6 = 1 → 0 < R.2.2.2.1 → σ.1 26 9 = iz (moF R s tg (moI (moF R s tg) (R.2.1 + 4))) ∧ σ.1 26 7 = nI (candD R.2.1 (moI (moF R s tg) (R.2.1 + 4))) ∧ σ.1 26 8 = iz (candF R.2.1 (moI (moF R s tg) (R.2.1 + 4))))
/-- the best so far -/
def MoB (σ : Wd) (R : Rk) (s : St) (tg : List Nat) (c : Nat) : Prop := (c = 0 → σ.1 26 9 = iz (-1)) ∧ (0 < c → σ.1 26 9 = iz (moF R s tg (moI (moF R s tg) c)) ∧ σ.1 26 7 = nI (candD R.2.1 (moI (moF R s tg) c)) ∧ σ.1 26 8 = iz (candF R.2.1 (moI (moF R s tg) c)))
theorem MoB.kept {c : Nat} (h : MoB σ R s tg c) (hk : ∀ b, 7 ≤ b → τ.1 26 b = σ.1 26 b) : MoB τ R s tg c := ⟨fun h0 => by rw [hk _ (by omega)]; exact h.1 h0, fun h0 => by rw [hk _ (by omega), hk _ (by omega), hk _ (by omega)]; exact h.2 h0⟩
theorem ok_learnMore (hP : CP σ r R s) (hm : 0 < R.2.2.2.1) (hT : RepT σ 13 tg) (hl : tg.length ≤ 6) (ht : ∀ v ∈ tg, v < R.2.2.2.1) (hC : MoC σ R s tg) (hS : StC σ R s) (hQ : ∀ τ, LmF r R.2.2.2.2.length σ τ → CP τ r R s → StC τ R s → MoC τ R s tg → τ.1 26 6 = 1 → Q none τ) : Ok (D + 6) mX8_learnMore [.ref 26, .ref r, .ref 13] σ Q := by
  obtain ⟨hr, hrk, hR, hv, hp0, hs⟩ := id hP
  have hm2 := hv.m100
  have hnk := hv.n9
  have hv9 := hv.mono (show 8 ≤ 9 by decide)
  have hb10 : R.2.1 ≤ 10 ∧ 2 ≤ R.2.1 := by
    rcases hv with e | ⟨v1, v2, v3, v4, v5, v6, v7, v8, v9⟩
    · rw [e] at hm; exact absurd hm (by decide)
    · exact ⟨v3, v2⟩
  have hr12 : r + 4 < 13 ∧ 3 ≤ r := by rcases hr with rfl | rfl <;> omega
  have hfr : ∀ c, c < R.2.1 + 4 → 0 ≤ moF R s tg c ∧ moF R s tg c ≤ 361206 := fun c hc => by
    have h9 := candK_v hv hm hc
    have := sumT_rng (f := fewS (addK R (candK R.2.1 c)) s) (fun v => few_rng (v := v) h9 hm hm2 hs) tg
    unfold moF
    omega
  have hTt : ∀ τ, LmF r R.2.2.2.2.length σ τ → RepT τ 13 tg := fun τ h => ⟨by rw [h.1 _ _ (by omega)]; exact hT.1, fun i v hi => by rw [h.1 _ _ (by omega)]; exact hT.2 i v hi⟩
  have hpt : ∀ τ, LmF r R.2.2.2.2.length σ τ → τ.1 13 0 = nI (ps s) := fun τ h => by rw [h.1 _ _ (by omega)]; exact hp0
  have hTg : ∀ τ τ', LmF r R.2.2.2.2.length σ τ → TgFr τ τ' → LmF r R.2.2.2.2.length σ τ' := fun τ τ' h1 h2 => ⟨fun a b h => by rw [h2.1 a b (by omega)]; exact h1.1 a b h, by rw [h2.2.1]; exact h1.2.1, fun a h => by rw [h2.2.2 a h]; exact h1.2.2 a h⟩
  have hst : ∀ τ τ' c x, LmF r R.2.2.2.2.length σ τ → τ' = setI τ 26 c x → 4 ≤ c → LmF r R.2.2.2.2.length σ τ' := fun τ τ' c x h1 e h2 => by
    subst e
    exact ⟨fun a b h => by rw [setI_ne (by omega)]; exact h1.1 a b h, h1.2⟩
  have fin : ∀ τ x5 x6 x7, LmF r R.2.2.2.2.length σ τ → RepR τ r R → τ.1 22 4 = 0 → τ.1 26 5 = 0 → τ.1 26 6 = 1 → MoB τ R s tg (R.2.1 + 4) → V mX8_learnMore (D + 6) 33 [some (.ref 26), some (.ref r), some (.ref 13), some (.int (iz (sumT (fewS R s) tg))), some (.int (nI (R.2.1 + 4))), x5, x6, x7] [] τ Q := by
    intro τ x5 x6 x7 hF hRR h22 h25 h26 hB
    refine v_iload dX8_learnMore_33 rfl ?_
    refine v_aload_n dX8_learnMore_35 rfl ?_
    refine v_getI dX8_learnMore_36 fl_RX8_115 hr.lay ?_
    rw [hRR.2.1]
    refine v_iconst dX8_learnMore_39 ?_
    refine v_iadd dX8_learnMore_40 ?_
    rw [show (4 : Int32) = nI 4 from rfl, nI_add]
    refine v_icmp_ge dX8_learnMore_41 (fun zc41 => ?_) (fun zc41 => ?_)
    · refine v_return dX8_learnMore_158 rfl ?_
      refine hQ τ hF ⟨hr, by rw [hF.2.1]; exact hrk, hRR, hv, hpt τ hF, hs⟩ ⟨Or.inl h25, Or.inl h22, fun _ => ⟨fun h => absurd h (by rw [h25]; decide), fun h => absurd h (by rw [h22]; decide)⟩⟩ ⟨Or.inr h26, fun _ _ => hB.2 (by omega)⟩ h26
    · exact absurd (nI_le (Nat.le_refl _) (by omega)) zc41
  have loop : ∀ j c τ x5 x6 x7, c + j = R.2.1 + 4 → LmF r R.2.2.2.2.length σ τ → RepR τ r R → τ.1 22 4 = 0 → τ.1 26 5 = 0 → τ.1 26 6 = 1 → MoB τ R s tg c → V mX8_learnMore (D + 6) 33 [some (.ref 26), some (.ref r), some (.ref 13), some (.int (iz (sumT (fewS R s) tg))), some (.int (nI c)), x5, x6, x7] [] τ Q := by
    intro j
    induction j with
    | zero =>
      intro c τ x5 x6 x7 hc hF hRR h22 h25 h26 hB
      obtain rfl : c = R.2.1 + 4 := by omega
      exact fin τ x5 x6 x7 hF hRR h22 h25 h26 hB
    | succ j ih =>
      intro c τ x5 x6 x7 hc hF hRR h22 h25 h26 hB
      have hcl : c < R.2.1 + 4 := by omega
      have hfc := hfr c hcl
      -- the sum is known
      have t117 : ∀ τ, LmF r R.2.2.2.2.length σ τ → RepR τ r R → τ.1 22 4 = 0 → τ.1 26 5 = 0 → τ.1 26 6 = 1 → MoB τ R s tg c → V mX8_learnMore (D + 6) 117 [some (.ref 26), some (.ref r), some (.ref 13), some (.int (iz (sumT (fewS R s) tg))), some (.int (nI c)), some (.int (nI (candD R.2.1 c))), some (.int (iz (candF R.2.1 c))), some (.int (iz (moF R s tg c)))] [] τ Q := by
        intro τ hF hRR h22 h25 h26 hB
        have hset : ∀ b : Nat, 7 ≤ b → ∀ x, RepR (setI τ 26 b x) r R := fun b hb x => hRR.kept (fun a b q1 q2 => setI_ne (by omega))
        have hRR3 : RepR (setI (setI (setI τ 26 7 (nI (candD R.2.1 c))) 26 8 (iz (candF R.2.1 c))) 26 9 (iz (moF R s tg c))) r R := hRR.kept (fun a b q1 q2 => by rw [setI_ne (by omega), setI_ne (by omega), setI_ne (by omega)])
        have hF3 : LmF r R.2.2.2.2.length σ (setI (setI (setI τ 26 7 (nI (candD R.2.1 c))) 26 8 (iz (candF R.2.1 c))) 26 9 (iz (moF R s tg c))) := hst _ _ 9 _ (hst _ _ 8 _ (hst _ _ 7 _ hF rfl (by omega)) rfl (by omega)) rfl (by omega)
        have h39 : ∀ x y z, (setI (setI (setI τ 26 7 x) 26 8 y) 26 9 z).1 22 4 = 0 ∧ (setI (setI (setI τ 26 7 x) 26 8 y) 26 9 z).1 26 5 = 0 ∧ (setI (setI (setI τ 26 7 x) 26 8 y) 26 9 z).1 26 6 = 1 := fun x y z => by
          refine ⟨?_, ?_, ?_⟩ <;> rw [setI_ne (by omega), setI_ne (by omega), setI_ne (by omega)] <;> assumption
        have hB3 : (c = 0 ∨ moF R s tg c < moF R s tg (moI (moF R s tg) c)) → MoB (setI (setI (setI τ 26 7 (nI (candD R.2.1 c))) 26 8 (iz (candF R.2.1 c))) 26 9 (iz (moF R s tg c))) R s tg (c + 1) := fun h => by
          have e : moI (moF R s tg) (c + 1) = c := by
            rw [moI_s]
            by_cases h0 : c = 0
            · rw [if_pos h0, h0]
            · rw [if_neg h0, if_pos (h.resolve_left h0)]
          refine ⟨fun h => absurd h (by omega), fun _ => ?_⟩
          rw [e]
          refine ⟨by rw [setI_same], by rw [setI_ne (by omega), setI_ne (by omega), setI_same], by rw [setI_ne (by omega), setI_same]⟩
        have yes := fun (h : c = 0 ∨ moF R s tg c < moF R s tg (moI (moF R s tg) c)) => ih (c + 1) _ (some (.int (nI (candD R.2.1 c)))) (some (.int (iz (candF R.2.1 c)))) (some (.int (iz (moF R s tg c)))) (by omega) hF3 hRR3 (h39 _ _ _).1 (h39 _ _ _).2.1 (h39 _ _ _).2.2 (hB3 h)
        have no : 0 < c → ¬ moF R s tg c < moF R s tg (moI (moF R s tg) c) → _ := fun h0 h => ih (c + 1) τ (some (.int (nI (candD R.2.1 c)))) (some (.int (iz (candF R.2.1 c)))) (some (.int (iz (moF R s tg c)))) (by omega) hF hRR h22 h25 h26 ⟨fun h => absurd h (by omega), fun _ => by rw [moI_s, if_neg (by omega), if_neg h]; exact hB.2 h0⟩
        rcases Nat.eq_zero_or_pos c with h0 | h0
        · have h9 := hB.1 h0
          have hy := yes (Or.inl h0)
          refine v_aload_n dX8_learnMore_117 rfl ?_
          refine v_getI dX8_learnMore_118 fl_RX8_38 rfl ?_
          rw [h9]
          refine v_iconst dX8_learnMore_121 ?_
          refine v_icmp_eq dX8_learnMore_122 (fun zc122 => ?_) (fun zc122 => ?_)
          · refine v_aload_n dX8_learnMore_134 rfl ?_
            refine v_iload dX8_learnMore_135 rfl ?_
            refine v_putI dX8_learnMore_137 fp_RX8_32 rfl ?_
            refine v_aload_n dX8_learnMore_140 rfl ?_
            refine v_iload dX8_learnMore_141 rfl ?_
            refine v_putI dX8_learnMore_143 fp_RX8_35 rfl ?_
            refine v_aload_n dX8_learnMore_146 rfl ?_
            refine v_iload dX8_learnMore_147 rfl ?_
            refine v_putI dX8_learnMore_149 fp_RX8_38 rfl ?_
            refine v_iinc dX8_learnMore_152 rfl (Nat.le_of_ble_eq_true rfl) rfl ?_
            refine v_goto dX8_learnMore_155 ?_
            rw [nI_1]
            exact hy
          · exact absurd rfl zc122
        · have h9 := (hB.2 h0).1
          have hml := moI_lt (f := moF R s tg) c h0
          have hfm := hfr (moI (moF R s tg) c) (by omega)
          refine v_aload_n dX8_learnMore_117 rfl ?_
          refine v_getI dX8_learnMore_118 fl_RX8_38 rfl ?_
          rw [h9]
          refine v_iconst dX8_learnMore_121 ?_
          refine v_icmp_eq dX8_learnMore_122 (fun zc122 => ?_) (fun zc122 => ?_)
          · exact absurd zc122 (by rw [show (-1 : Int32) = iz (-1) from rfl, iz_eq (by omega) (by omega) (by omega) (by omega)]; omega)
          · refine v_iload dX8_learnMore_125 rfl ?_
            refine v_aload_n dX8_learnMore_127 rfl ?_
            refine v_getI dX8_learnMore_128 fl_RX8_38 rfl ?_
            rw [h9]
            refine v_icmp_ge dX8_learnMore_131 (fun zc131 => ?_) (fun zc131 => ?_)
            · rw [iz_le (by omega) (by omega) (by omega) (by omega)] at zc131
              refine v_iinc dX8_learnMore_152 rfl (Nat.le_of_ble_eq_true rfl) rfl ?_
              refine v_goto dX8_learnMore_155 ?_
              rw [nI_1]
              first | exact yes (Or.inr (by omega)) | exact no h0 (by omega)
            · rw [iz_le (by omega) (by omega) (by omega) (by omega)] at zc131
              refine v_aload_n dX8_learnMore_134 rfl ?_
              refine v_iload dX8_learnMore_135 rfl ?_
              refine v_putI dX8_learnMore_137 fp_RX8_32 rfl ?_
              refine v_aload_n dX8_learnMore_140 rfl ?_
              refine v_iload dX8_learnMore_141 rfl ?_
              refine v_putI dX8_learnMore_143 fp_RX8_35 rfl ?_
              refine v_aload_n dX8_learnMore_146 rfl ?_
              refine v_iload dX8_learnMore_147 rfl ?_
              refine v_putI dX8_learnMore_149 fp_RX8_38 rfl ?_
              refine v_iinc dX8_learnMore_152 rfl (Nat.le_of_ble_eq_true rfl) rfl ?_
              refine v_goto dX8_learnMore_155 ?_
              rw [nI_1]
              first | exact yes (Or.inr (by omega)) | exact no h0 (by omega)
      have t79 : ∀ x6, V mX8_learnMore (D + 6) 79 [some (.ref 26), some (.ref r), some (.ref 13), some (.int (iz (sumT (fewS R s) tg))), some (.int (nI c)), some (.int (nI (candD R.2.1 c))), x6, x7] [.int (iz (candF R.2.1 c))] τ Q := by
        intro x6
        have hcd : candD R.2.1 c < 8 := by unfold candD; split <;> omega
        have hcf : -1 ≤ candF R.2.1 c ∧ candF R.2.1 c < 100 := by unfold candF; split <;> omega
        have hsame : hasK R.2.2.2.2 (candD R.2.1 c) (candF R.2.1 c) = true → moF R s tg c = sumT (fewS R s) tg := fun h => by
          unfold moF
          exact sumT_c (fun v _ => cand_dup h hcl)
        have h9 := candK_v hv hm hcl
        have hadd := rep_addKey (k := candK R.2.1 c) (n := R.2.2.2.2.length) rfl hRR
        refine v_istore dX8_learnMore_79 (Nat.le_of_ble_eq_true rfl) rfl ?_
        refine v_iload_n dX8_learnMore_81 rfl ?_
        refine v_istore dX8_learnMore_82 (Nat.le_of_ble_eq_true rfl) rfl ?_
        refine v_aload_n dX8_learnMore_84 rfl ?_
        refine v_iload dX8_learnMore_85 rfl ?_
        refine v_iload dX8_learnMore_87 rfl ?_
        refine v_callV2 dX8_learnMore_89 mv_RX8_118 hr.lay rfl (Nat.le_of_ble_eq_true rfl) ?_
        refine ok_hasKey hr hRR hv (by decide) hcd hcf.1 hcf.2 ?_
        show V _ _ _ _ (_ :: _) _ _
        refine v_if_ne dX8_learnMore_92 (fun zc92 => ?_) (fun zc92 => ?_)
        · have hyes := if1t zc92
          first | (have h5 := t117 τ hF hRR h22 h25 h26 hB; rw [hsame hyes] at h5; exact h5) | (exact t117 _ hFf hRf (by rw [setI_ne (by omega)]; exact f2) (by rw [hk2 _ _ (by omega)]; exact h25) (by rw [hk2 _ _ (by omega)]; exact h26) (hB.kept (fun b hb => hk2 _ _ (by omega))))
        · have hno := if0f zc92
          refine v_aload_n dX8_learnMore_95 rfl ?_
          refine v_iload dX8_learnMore_96 rfl ?_
          refine v_iconst dX8_learnMore_98 ?_
          refine v_iload dX8_learnMore_99 rfl ?_
          refine v_iconst dX8_learnMore_101 ?_
          refine v_callV4 dX8_learnMore_102 mv_RX8_122 hr.lay rfl (Nat.le_of_ble_eq_true rfl) ?_
          refine ok_addKey hr hRR.2.2.2.2.1 (by omega) ?_
          show V _ _ _ _ _ _ _
          refine v_aload_n dX8_learnMore_105 rfl ?_
          refine v_aload_n dX8_learnMore_106 rfl ?_
          refine v_aload_n dX8_learnMore_107 rfl ?_
          refine v_callV2 dX8_learnMore_108 mv_RX8_111 rfl rfl (Nat.le_of_ble_eq_true rfl) ?_
          refine ok_together (R := addK R (candK R.2.1 c)) (tg := tg) hr hadd h9 hm hs (by rw [setI_ne (by omega), setI_ne (by omega), setI_ne (by omega), setI_ne (by omega), setI_ne (by omega)]; exact hpt τ hF) ⟨by rw [setI_ne (by omega), setI_ne (by omega), setI_ne (by omega), setI_ne (by omega), setI_ne (by omega)]; exact (hTt τ hF).1, fun i v hi => by rw [setI_ne (by omega), setI_ne (by omega), setI_ne (by omega), setI_ne (by omega), setI_ne (by omega)]; exact (hTt τ hF).2 i v hi⟩ hl ht (fun τ2 f1 f2 => ?_)
          have hadd2 : RepR τ2 r (addK R (candK R.2.1 c)) := hadd.kept (fun a b q1 q2 => f1.1 _ _ (by omega))
          have hl1 : (addK R (candK R.2.1 c)).2.2.2.2.length = R.2.2.2.2.length + 1 := by show (R.2.2.2.2 ++ [candK R.2.1 c]).length = _; rw [List.length_append]; rfl
          have h24 : τ2.1 r 4 = nI (R.2.2.2.2.length + 1) := by rw [hadd2.2.2.2.2.1, hl1]
          have hRf : RepR (setI τ2 r 4 (nI R.2.2.2.2.length)) r R := rep_dropKey hadd2
          have hk2 : ∀ a b, ¬ (a = 24 ∨ a = 25 ∨ a = 27 ∨ a = 28 ∨ a = 29 ∨ (a = 22 ∧ (b = 3 ∨ b = 4)) ∨ (a = 26 ∧ b = 4) ∨ (r + 1 ≤ a ∧ a ≤ r + 4 ∧ b = R.2.2.2.2.length)) → (setI τ2 r 4 (nI R.2.2.2.2.length)).1 a b = τ.1 a b := fun a b h => by
            by_cases h4 : a = r ∧ b = 4
            · obtain ⟨rfl, rfl⟩ := h4
              rw [setI_same, hRR.2.2.2.2.1]
            · rw [setI_ne h4, f1.1 a b (by omega), setI_ne (by omega), setI_ne (by omega), setI_ne (by omega), setI_ne (by omega), setI_ne (by omega)]
          have hFf : LmF r R.2.2.2.2.length σ (setI τ2 r 4 (nI R.2.2.2.2.length)) := ⟨fun a b h => by rw [hk2 a b (by omega)]; exact hF.1 a b h, by show τ2.2.2 = _; rw [f1.2.1]; exact hF.2.1, fun a h => by show τ2.2.1 a = _; rw [f1.2.2 a h]; exact hF.2.2 a h⟩
          show V _ _ _ _ (_ :: _) _ _
          refine v_istore dX8_learnMore_111 (Nat.le_of_ble_eq_true rfl) rfl ?_
          refine v_aload_n dX8_learnMore_113 rfl ?_
          refine v_callV0 dX8_learnMore_114 mv_RX8_126 hr.lay rfl (Nat.le_of_ble_eq_true rfl) ?_
          refine ok_dropKey hr h24 (by omega) ?_
          show V _ _ _ _ _ _ _
          first | (have h5 := t117 τ hF hRR h22 h25 h26 hB; rw [hsame hyes] at h5; exact h5) | (exact t117 _ hFf hRf (by rw [setI_ne (by omega)]; exact f2) (by rw [hk2 _ _ (by omega)]; exact h25) (by rw [hk2 _ _ (by omega)]; exact h26) (hB.kept (fun b hb => hk2 _ _ (by omega))))
      have t66 : ∀ x5 x6, V mX8_learnMore (D + 6) 66 [some (.ref 26), some (.ref r), some (.ref 13), some (.int (iz (sumT (fewS R s) tg))), some (.int (nI c)), x5, x6, x7] [.int (nI (candD R.2.1 c))] τ Q := by
        intro x5 x6
        have hcd : candD R.2.1 c < 8 := by unfold candD; split <;> omega
        refine v_istore dX8_learnMore_66 (Nat.le_of_ble_eq_true rfl) rfl ?_
        refine v_iload dX8_learnMore_68 rfl ?_
        refine v_if_ne dX8_learnMore_70 (fun zc70 => ?_) (fun zc70 => ?_)
        · rw [show (0 : Int32) = nI 0 from rfl, nI_eq (by omega) (by omega)] at zc70
          refine v_iconst dX8_learnMore_78 ?_
          have h5 := t79 x6
          have ecd : candD R.2.1 c = 0 ↔ c < R.2.1 := by unfold candD; split <;> omega
          first | (rw [show candF R.2.1 c = -1 by unfold candF; rw [if_neg (fun h => zc70 (ecd.mpr h))]] at h5; exact h5) | (rw [show candF R.2.1 c = (c : Int) by unfold candF; rw [if_pos (ecd.mp zc70)], ← iz_nI] at h5; exact h5)
        · rw [show (0 : Int32) = nI 0 from rfl, nI_eq (by omega) (by omega)] at zc70
          refine v_iload dX8_learnMore_73 rfl ?_
          refine v_goto dX8_learnMore_75 ?_
          have h5 := t79 x6
          have ecd : candD R.2.1 c = 0 ↔ c < R.2.1 := by unfold candD; split <;> omega
          first | (rw [show candF R.2.1 c = -1 by unfold candF; rw [if_neg (fun h => zc70 (ecd.mpr h))]] at h5; exact h5) | (rw [show candF R.2.1 c = (c : Int) by unfold candF; rw [if_pos (ecd.mp zc70)], ← iz_nI] at h5; exact h5)
      refine v_iload dX8_learnMore_33 rfl ?_
      refine v_aload_n dX8_learnMore_35 rfl ?_
      refine v_getI dX8_learnMore_36 fl_RX8_115 hr.lay ?_
      rw [hRR.2.1]
      refine v_iconst dX8_learnMore_39 ?_
      refine v_iadd dX8_learnMore_40 ?_
      rw [show (4 : Int32) = nI 4 from rfl, nI_add]
      refine v_icmp_ge dX8_learnMore_41 (fun zc41 => ?_) (fun zc41 => ?_)
      · exact absurd zc41 (nI_ge (by omega) (by omega))
      · refine v_iload dX8_learnMore_44 rfl ?_
        refine v_aload_n dX8_learnMore_46 rfl ?_
        refine v_getI dX8_learnMore_47 fl_RX8_115 hr.lay ?_
        rw [hRR.2.1]
        refine v_icmp_ge dX8_learnMore_50 (fun zc50 => ?_) (fun zc50 => ?_)
        · rw [nI_leI (by omega) (by omega)] at zc50
          refine v_iconst dX8_learnMore_57 ?_
          refine v_iload dX8_learnMore_58 rfl ?_
          refine v_iadd dX8_learnMore_60 ?_
          refine v_aload_n dX8_learnMore_61 rfl ?_
          refine v_getI dX8_learnMore_62 fl_RX8_115 hr.lay ?_
          rw [hRR.2.1]
          refine v_isub dX8_learnMore_65 ?_
          have h5 := t66 x5 x6
          first | (rw [show candD R.2.1 c = 0 by unfold candD; rw [if_pos (by omega)]] at h5; exact h5) | (rw [show candD R.2.1 c = c - R.2.1 + 1 by unfold candD; rw [if_neg (by omega)]] at h5; rw [show (1 : Int32) = nI 1 from rfl, nI_add, pk_sub (by omega), show 1 + c - R.2.1 = c - R.2.1 + 1 by omega]; exact h5)
        · rw [nI_leI (by omega) (by omega)] at zc50
          refine v_iconst dX8_learnMore_53 ?_
          refine v_goto dX8_learnMore_54 ?_
          have h5 := t66 x5 x6
          first | (rw [show candD R.2.1 c = 0 by unfold candD; rw [if_pos (by omega)]] at h5; exact h5) | (rw [show candD R.2.1 c = c - R.2.1 + 1 by unfold candD; rw [if_neg (by omega)]] at h5; rw [show (1 : Int32) = nI 1 from rfl, nI_add, pk_sub (by omega), show 1 + c - R.2.1 = c - R.2.1 + 1 by omega]; exact h5)
  have hF0 : LmF r R.2.2.2.2.length σ (setI (setI (setI σ 26 5 0) 26 6 1) 26 9 (-1)) := ⟨fun a b h => by rw [setI_ne (by omega), setI_ne (by omega), setI_ne (by omega)], rfl, fun _ _ => rfl⟩
  have hR0 : RepR (setI (setI (setI σ 26 5 0) 26 6 1) 26 9 (-1)) r R := hR.kept (fun a b q1 q2 => by rw [setI_ne (by omega), setI_ne (by omega), setI_ne (by omega)])
  refine ok_enter rfl (Nat.le_of_ble_eq_true rfl) ?_
  refine v_aload_n dX8_learnMore_0 rfl ?_
  refine v_getI dX8_learnMore_1 fl_RX8_29 rfl ?_
  refine v_if_eq dX8_learnMore_4 (fun zc4 => ?_) (fun zc4 => ?_)
  · refine v_aload_n dX8_learnMore_8 rfl ?_
    refine v_iconst dX8_learnMore_9 ?_
    refine v_putZ dX8_learnMore_10 fp_RX8_25 rfl (by first | exact Or.inl rfl | exact Or.inr rfl) ?_
    refine v_aload_n dX8_learnMore_13 rfl ?_
    refine v_iconst dX8_learnMore_14 ?_
    refine v_putZ dX8_learnMore_15 fp_RX8_29 rfl (by first | exact Or.inl rfl | exact Or.inr rfl) ?_
    refine v_aload_n dX8_learnMore_18 rfl ?_
    refine v_iconst dX8_learnMore_19 ?_
    refine v_putI dX8_learnMore_20 fp_RX8_38 rfl ?_
    refine v_aload_n dX8_learnMore_23 rfl ?_
    refine v_aload_n dX8_learnMore_24 rfl ?_
    refine v_aload_n dX8_learnMore_25 rfl ?_
    refine v_callV2 dX8_learnMore_26 mv_RX8_111 rfl rfl (Nat.le_of_ble_eq_true rfl) ?_
    refine ok_together (tg := tg) hr hR0 hv9 hm hs (hpt _ hF0) (hTt _ hF0) hl ht (fun τ2 f1 f2 => ?_)
    show V _ _ _ _ (_ :: _) _ _
    refine v_istore_n dX8_learnMore_29 (Nat.le_of_ble_eq_true rfl) rfl ?_
    refine v_iconst dX8_learnMore_30 ?_
    refine v_istore dX8_learnMore_31 (Nat.le_of_ble_eq_true rfl) rfl ?_
    refine loop (R.2.1 + 4) 0 τ2 _ _ _ (by omega) (hTg _ _ hF0 f1) (hR0.kept (fun a b q1 q2 => f1.1 _ _ (by omega))) f2 ?_ ?_ ⟨fun _ => ?_, fun h => absurd h (by omega)⟩
    · rw [f1.1 _ _ (by omega), setI_ne (by omega), setI_ne (by omega), setI_same]
    · rw [f1.1 _ _ (by omega), setI_ne (by omega), setI_same]
    · rw [f1.1 _ _ (by omega), setI_same]; rfl
  · refine v_return dX8_learnMore_7 rfl ?_
    exact hQ σ ⟨fun _ _ _ => rfl, rfl, fun _ _ => rfl⟩ hP hS hC (hC.1.resolve_left zc4)
theorem ok_cmore {x : Int32} (hP : CP σ r R s) (hT : RepT σ 13 tg) (hl : tg.length ≤ 6) (ht : ∀ v ∈ tg, v < R.2.2.2.1) (hC : MoC σ R s tg) (hS : StC σ R s) (hQ : ∀ τ, LmF r R.2.2.2.2.length σ τ → CP τ r R s → StC τ R s → MoC τ R s tg → Q (some (.int (moAns R s tg x.toInt))) τ) : Ok (D + 7) mX11_more [.ref 0, .int x] σ Q := by
  obtain ⟨hr, hrk, hR, hv, hp0, hs⟩ := id hP
  have hm := hv.m100
  obtain ⟨x1, x2⟩ := iz_rng x
  have hxe := iz_of x
  generalize hxi : x.toInt = xi at *
  subst hxe
  unfold moAns at hQ
  have h0 := hQ σ ⟨fun _ _ _ => rfl, rfl, fun _ _ => rfl⟩ hP hS hC
  refine ok_enter rfl (Nat.le_of_ble_eq_true rfl) ?_
  refine v_iload_n dX11_more_0 rfl ?_
  refine v_if_lt dX11_more_1 (fun zc1 => ?_) (fun zc1 => ?_)
  · simp (disch := omega) only [iz_lit, iz_lt] at zc1
    refine v_ldc dX11_more_9 cn_RX11_97 ?_
    refine v_ireturn dX11_more_11 rfl (rfl) ?_
    rw [if_pos (by omega)] at h0
    exact h0
  · simp (disch := omega) only [iz_lit, iz_lt] at zc1
    refine v_iload_n dX11_more_4 rfl ?_
    refine v_iconst dX11_more_5 ?_
    refine v_icmp_le dX11_more_6 (fun zc6 => ?_) (fun zc6 => ?_)
    · simp (disch := omega) only [iz_lit, iz_le] at zc6
      refine v_aload_n dX11_more_12 rfl ?_
      refine v_getM dX11_more_13 fl_RX11_19 rfl ?_
      rw [hrk]
      refine v_getI dX11_more_16 fl_RX11_131 hr.lay ?_
      rw [hR.2.2.2.1]
      refine v_if_ne dX11_more_19 (fun zc19 => ?_) (fun zc19 => ?_)
      · rw [show (0 : Int32) = nI 0 from rfl, nI_eq (by omega) (by omega)] at zc19
        refine v_aload_n dX11_more_25 rfl ?_
        refine v_getR (q := 26) dX11_more_26 fl_RX11_58 rfl rfl ?_
        refine v_aload_n dX11_more_29 rfl ?_
        refine v_getM dX11_more_30 fl_RX11_19 rfl ?_
        rw [hrk]
        refine v_aload_n dX11_more_33 rfl ?_
        refine v_getR (q := 13) dX11_more_34 fl_RX11_29 rfl rfl ?_
        refine v_callV2 dX11_more_37 mv_RX11_219 rfl rfl (Nat.le_of_ble_eq_true rfl) ?_
        refine ok_learnMore hP (by omega) hT hl ht hC hS (fun τ f1 f2 f3 f5 f6 => ?_)
        have h9 := hQ τ f1 f2 f3 f5
        rw [if_neg (by omega), if_neg zc19] at h9
        obtain ⟨e9, e7, e8⟩ := f5.2 f6 (by omega)
        show V _ _ _ _ _ _ _
        refine v_iload_n dX11_more_40 rfl ?_
        refine v_iconst dX11_more_41 ?_
        refine v_icmp_ne dX11_more_42 (fun zc42 => ?_) (fun zc42 => ?_)
        · simp (disch := omega) only [iz_lit, iz_eq] at zc42
          refine v_iload_n dX11_more_53 rfl ?_
          refine v_if_ne dX11_more_54 (fun zc54 => ?_) (fun zc54 => ?_)
          · simp (disch := omega) only [iz_lit, iz_eq] at zc54
            refine v_aload_n dX11_more_67 rfl ?_
            refine v_getR (q := 26) dX11_more_68 fl_RX11_58 rfl rfl ?_
            refine v_getI dX11_more_71 fl_RX11_229 rfl ?_
            rw [e8]
            refine v_ireturn dX11_more_74 rfl (rfl) ?_
            rw [if_neg zc42] at h9
            first | (rw [if_pos zc54] at h9; exact h9) | (rw [if_neg zc54] at h9; exact h9)
          · simp (disch := omega) only [iz_lit, iz_eq] at zc54
            refine v_aload_n dX11_more_57 rfl ?_
            refine v_getR (q := 26) dX11_more_58 fl_RX11_58 rfl rfl ?_
            refine v_getI dX11_more_61 fl_RX11_226 rfl ?_
            rw [e7]
            refine v_goto dX11_more_64 ?_
            refine v_ireturn dX11_more_74 rfl (rfl) ?_
            rw [if_neg zc42] at h9
            first | (rw [if_pos zc54] at h9; exact h9) | (rw [if_neg zc54] at h9; exact h9)
        · simp (disch := omega) only [iz_lit, iz_eq] at zc42
          refine v_aload_n dX11_more_45 rfl ?_
          refine v_getR (q := 26) dX11_more_46 fl_RX11_58 rfl rfl ?_
          refine v_getI dX11_more_49 fl_RX11_223 rfl ?_
          rw [e9]
          refine v_ireturn dX11_more_52 rfl (rfl) ?_
          rw [if_pos zc42] at h9
          exact h9
      · rw [show (0 : Int32) = nI 0 from rfl, nI_eq (by omega) (by omega)] at zc19
        refine v_ldc dX11_more_22 cn_RX11_208 ?_
        refine v_ireturn dX11_more_24 rfl (rfl) ?_
        rw [if_neg (by omega), if_pos zc19] at h0
        exact h0
    · simp (disch := omega) only [iz_lit, iz_le] at zc6
      refine v_ldc dX11_more_9 cn_RX11_97 ?_
      refine v_ireturn dX11_more_11 rfl (rfl) ?_
      rw [if_pos (by omega)] at h0
      exact h0
end CM
