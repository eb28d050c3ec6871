/-! ===== the least cost: the class's learn ===== -/
section CK
variable {D : Nat} {σ τ τ' : Wd} {Q : Option Value → Wd → Prop} {R : Rk} {s t : St} {q : List En} {tt : Nat → Nat} {k n m d r : Nat}
theorem KI.dq (h : KI R s q tt) (hq : q.length ≤ 60200) : ∀ e ∈ q, e.2.2.2 < 100000000 := fun e he => by
  obtain ⟨j, hj⟩ := List.getElem?_of_mem he
  have h1 := h.2.2.1 j e hj
  have h2 := (List.getElem?_eq_some_iff.mp hj).1
  omega
theorem CBc.kept (h : CBc τ m q) (hk : ∀ a b, a = 24 ∨ a = 25 ∨ a = 31 ∨ (a = 22 ∧ b = 3) ∨ (a = 30 ∧ b = 3) → τ'.1 a b = τ.1 a b) (hk2 : τ'.2.1 23 = τ.2.1 23) : CBc τ' m q := by
  obtain ⟨⟨a1, a2, a3⟩, b, c⟩ := h
  refine ⟨⟨by rw [hk _ _ (by omega)]; exact a1, fun j e hj => by rw [hk _ _ (by omega), hk _ _ (by omega)]; exact a2 j e hj, fun n hn => ?_⟩, fun v hv => by rw [hk _ _ (by omega)]; exact b v hv, by rw [hk _ _ (by omega)]; exact c⟩
  rw [← a3 n hn]
  unfold seen
  rw [hk2]
theorem ok_clearn (hr : vIsR r) (hR : RepR σ r R) (hv : vR 8 R) (hm : 0 < R.2.2.2.1) (hs : vS R.2.2.2.1 s) (hC : CoC σ R s) (hQ : ∀ τ, CoF σ τ → CoC τ R s → τ.1 30 5 = 1 → ((σ.1 30 5 = 1 ∧ τ = σ) ∨ τ.1 22 4 = 0) → Q none τ) : Ok (D + 4) mX2_learn [.ref 30, .ref r, .int (nI (ps s))] σ Q := by
  have hm2 := hv.m100
  have hK := hv.n9
  have hpl := nPl_le hm2
  have hr12 : r + 4 < 13 ∧ 3 ≤ r := by rcases hr with rfl | rfl <;> omega
  have fin : ∀ τ q tt x3 x4 x5, CoF σ τ → τ.1 22 4 = 0 → CBc τ R.2.2.2.1 q → KI R s q tt → (∀ v, v < R.2.2.2.1 → bfF v q = none → ∀ k, k < R.2.2.2.2.length → tt k = q.length) → V mX2_learn (D + 4) 143 [some (.ref 30), some (.ref r), some (.int (nI (ps s))), x3, x4, x5] [] τ Q := by
    intro τ q tt x3 x4 x5 hF h22 hB hI hx
    have h9 := hQ (setI τ 30 5 1) ⟨fun a b h => by rw [setI_ne (by omega)]; exact hF.1 a b h, hF.2⟩ ⟨Or.inr setI_same, fun _ _ v hvm => ⟨_, hI.fin hv (hx v hvm), by
      rw [setI_ne (by omega)]
      have h5 := hB.2.1 v (by omega)
      cases hb : bfF v q with
      | some e => rw [h5.1 e hb, iz_nI]
      | none => rw [h5.2 hb]; rfl⟩⟩ setI_same (Or.inr (by rw [setI_ne (by omega)]; exact h22))
    refine v_aload_n dX2_learn_143 rfl ?_
    refine v_iconst dX2_learn_144 ?_
    refine v_putZ dX2_learn_145 fp_RX2_25 rfl (by first | exact Or.inl rfl | exact Or.inr rfl) ?_
    refine v_return dX2_learn_148 rfl ?_
    exact h9
  have loop : ∀ j turn τ q tt x4 x5, turn + j = 481600 → sumK tt R.2.2.2.2.length = turn → CoF σ τ → τ.1 22 4 = 0 → CBc τ R.2.2.2.1 q → (∀ k, k < 8 → τ.1 32 k = nI (tt k)) → KI R s q tt → V mX2_learn (D + 4) 47 [some (.ref 30), some (.ref r), some (.int (nI (ps s))), some (.int (nI turn)), x4, x5] [] τ Q := by
    intro j
    induction j with
    | zero =>
      intro turn τ q tt x4 x5 hj hsum hF h22 hB hT hI
      obtain rfl : turn = 481600 := by omega
      have hql := Nat.le_trans (bfV.len hm hI.1) hpl
      have hall := sumK_all (tt := tt) (L := q.length) R.2.2.2.2.length (fun k hk => (hI.2.2.2.2.1 k hk).1) (by
        rw [hsum]
        have := Nat.mul_le_mul hK hql
        omega)
      refine v_iload_n dX2_learn_47 rfl ?_
      refine v_ldc dX2_learn_48 cn_RX2_53 ?_
      refine v_icmp_ge dX2_learn_50 (fun zc50 => ?_) (fun zc50 => ?_)
      · exact fin τ q tt _ _ _ hF h22 hB hI (fun v _ _ => hall)
      · exact absurd (show (481600 : Int32) ≤ nI 481600 by decide) zc50
    | succ j ih =>
      intro turn τ q tt x4 x5 hj hsum hF h22 hB hT hI
      have hql := Nat.le_trans (bfV.len hm hI.1) hpl
      have hRt : RepR τ r R := hR.kept (fun a b q1 q2 => hF.1 _ _ (by omega))
      have hcl : cM R.2.2.2.1 (fun _ => true) q ≤ 100 := by
        unfold cM
        have := List.countP_le_length (p := fun v => (fun _ => true) v && (bfF v q).isNone) (l := List.range R.2.2.2.1)
        rw [List.length_range] at this
        omega
      have t69n : (∀ v, v < R.2.2.2.1 → bfF v q = none → ∀ k, k < R.2.2.2.2.length → tt k = q.length) → ∀ τ' y4 y5, ChF τ τ' → V mX2_learn (D + 4) 69 [some (.ref 30), some (.ref r), some (.int (nI (ps s))), some (.int (nI turn)), y4, y5] [.int (-1)] τ' Q := by
        intro hx τ' y4 y5 hCh
        have hF2 : CoF σ τ' := ⟨fun a b h => by rw [hCh.1 a b (by omega)]; exact hF.1 a b h, by rw [hCh.2]; exact hF.2.1, fun a h => by rw [hCh.2]; exact hF.2.2 a h⟩
        have hB2 : CBc τ' R.2.2.2.1 q := hB.kept (fun a b h => hCh.1 a b (by omega)) (by rw [hCh.2])
        have h143 := fun y3 y4 y5 => fin τ' q tt y3 y4 y5 hF2 (by rw [hCh.1 _ _ (by omega)]; exact h22) hB2 hI hx
        refine v_istore dX2_learn_69 (Nat.le_of_ble_eq_true rfl) rfl ?_
        refine v_iload dX2_learn_71 rfl ?_
        refine v_iconst dX2_learn_73 ?_
        refine v_icmp_ne dX2_learn_74 (fun zc74 => ?_) (fun zc74 => ?_)
        · exact absurd rfl zc74
        · refine v_goto dX2_learn_77 ?_
          exact h143 _ _ _
      have t69 : ∀ k τ' y4 y5, k < R.2.2.2.2.length → tt k < q.length → (∀ k', k' < R.2.2.2.2.length → tt k' < q.length → cC R q tt k ≤ cC R q tt k') → ChF τ τ' → τ'.1 30 4 = nI (cC R q tt k) → V mX2_learn (D + 4) 69 [some (.ref 30), some (.ref r), some (.int (nI (ps s))), some (.int (nI turn)), y4, y5] [.int (nI k)] τ' Q := by
        intro k τ' y4 y5 hk htk hmin hCh hcc
        have hky : R.2.2.2.2[k]? = some (R.2.2.2.2.getD k (0, 0, 0, 0)) := by rw [List.getD, List.getElem?_eq_getElem hk]; rfl
        have hg : q[tt k]? = some (q.getD (tt k) en0) := by rw [List.getD, List.getElem?_eq_getElem htk]; rfl
        have hvt : vS R.2.2.2.1 (q.getD (tt k) en0).1 := hI.1.2 _ (getD_mem htk)
        have hvn := nx_v hv hk hvt
        have hTk : τ'.1 32 k = nI (tt k) := by rw [hCh.1 _ _ (by omega)]; exact hT k (by omega)
        have hst : τ'.1 24 (tt k) = nI (ps (q.getD (tt k) en0).1) := by rw [hCh.1 _ _ (by omega)]; exact (hB.1.2.1 _ _ hg).1
        obtain ⟨τ2, hτ2⟩ : ∃ τ2, τ2 = setI τ' 32 k (nI (tt k + 1)) := ⟨_, rfl⟩
        have hF2 : CoF σ τ2 := by
          rw [hτ2]
          exact ⟨fun a b h => by rw [setI_ne (by omega), hCh.1 a b (by omega)]; exact hF.1 a b h, by show τ'.2.2 = _; rw [hCh.2]; exact hF.2.1, fun a h => by show τ'.2.1 a = _; rw [hCh.2]; exact hF.2.2 a h⟩
        have hB2 : CBc τ2 R.2.2.2.1 q := by
          rw [hτ2]
          exact hB.kept (fun a b h => by rw [setI_ne (by omega)]; exact hCh.1 a b (by omega)) (by show τ'.2.1 23 = _; rw [hCh.2])
        have hT2 : ∀ k', k' < 8 → τ2.1 32 k' = nI (upD tt k (tt k + 1) k') := fun k' hk' => by
          rw [hτ2]
          by_cases e : k' = k
          · rw [e, upD_s, setI_same]
          · rw [upD_n e, setI_ne (fun h => e h.2), hCh.1 _ _ (by omega)]; exact hT k' hk'
        have hsum2 : sumK (upD tt k (tt k + 1)) R.2.2.2.2.length = turn + 1 := by rw [sumK_up _ hk, hsum]
        have hR2 : RepR τ2 r R := hR.kept (fun a b q1 q2 => hF2.1 _ _ (by omega))
        have hnl : (∀ e ∈ q, e.1 ≠ nx R (q.getD (tt k) en0).1 k) → bfV R.2.2.2.1 (q ++ [(nx R (q.getD (tt k) en0).1 k, 0, 0, cC R q tt k)]) := fun hne => by
          refine ⟨?_, fun x hx => ?_⟩
          · rw [List.map_append, List.nodup_append]
            refine ⟨hI.1.1, by simp, fun a ha b hb => ?_⟩
            obtain ⟨x, hx, rfl⟩ := List.mem_map.mp ha
            have hb2 : b = nx R (q.getD (tt k) en0).1 k := by simpa using hb
            rw [hb2]
            exact hne x hx
          · rcases List.mem_append.mp hx with hx | hx
            · exact hI.1.2 x hx
            · rw [List.mem_singleton.mp hx]
              exact hvn
        refine v_istore dX2_learn_69 (Nat.le_of_ble_eq_true rfl) rfl ?_
        refine v_iload dX2_learn_71 rfl ?_
        refine v_iconst dX2_learn_73 ?_
        refine v_icmp_ne dX2_learn_74 (fun zc74 => ?_) (fun zc74 => ?_)
        · refine v_aload_n dX2_learn_80 rfl ?_
          refine v_getR (q := 22) dX2_learn_81 fl_RX2_29 rfl rfl ?_
          refine v_getR (q := 24) dX2_learn_84 fl_RX2_58 rfl rfl ?_
          refine v_aload_n dX2_learn_87 rfl ?_
          refine v_getR (q := 32) dX2_learn_88 fl_RX2_15 rfl rfl ?_
          refine v_iload dX2_learn_91 rfl ?_
          refine v_callS2 dX2_learn_93 ms_RX2_61 (Nat.le_of_ble_eq_true rfl) ?_
          refine ok_at rfl (by decide) ?_
          rw [vAt_nI (by omega) (by omega), hTk]
          show V _ _ _ _ (_ :: _) _ _
          refine v_callS2 dX2_learn_96 ms_RX2_61 (Nat.le_of_ble_eq_true rfl) ?_
          refine ok_at rfl (by decide) ?_
          rw [vAt_nI (by omega) (by omega), hst]
          show V _ _ _ _ (_ :: _) _ _
          refine v_istore dX2_learn_99 (Nat.le_of_ble_eq_true rfl) rfl ?_
          refine v_aload_n dX2_learn_101 rfl ?_
          refine v_getR (q := 32) dX2_learn_102 fl_RX2_15 rfl rfl ?_
          refine v_iload dX2_learn_105 rfl ?_
          refine v_aload_n dX2_learn_107 rfl ?_
          refine v_getR (q := 32) dX2_learn_108 fl_RX2_15 rfl rfl ?_
          refine v_iload dX2_learn_111 rfl ?_
          refine v_callS2 dX2_learn_113 ms_RX2_61 (Nat.le_of_ble_eq_true rfl) ?_
          refine ok_at rfl (by decide) ?_
          rw [vAt_nI (by omega) (by omega), hTk]
          show V _ _ _ _ (_ :: _) _ _
          refine v_iconst dX2_learn_116 ?_
          refine v_iadd dX2_learn_117 ?_
          rw [nI_1]
          refine v_callS3 dX2_learn_118 ms_RX2_65 (Nat.le_of_ble_eq_true rfl) ?_
          refine ok_put rfl (by decide) ?_
          rw [wPut_nI (by omega) (by omega), ← hτ2]
          show V _ _ _ _ _ _ _
          refine v_aload_n dX2_learn_121 rfl ?_
          refine v_aload_n dX2_learn_122 rfl ?_
          refine v_iload dX2_learn_123 rfl ?_
          refine v_iload dX2_learn_125 rfl ?_
          refine v_callV2 dX2_learn_127 mv_RX2_69 hr.lay rfl (Nat.le_of_ble_eq_true rfl) ?_
          refine ok_afterStroke hr hR2 (by decide) hv hvt hky ?_
          rw [show rk_str R (q.getD (tt k) en0).1 (R.2.2.2.2.getD k (0, 0, 0, 0)) = nx R (q.getD (tt k) en0).1 k from rfl]
          show V _ _ _ _ (_ :: _) _ _
          refine v_aload_n dX2_learn_130 rfl ?_
          refine v_getI dX2_learn_131 fl_RX2_22 rfl ?_
          rw [show τ2.1 30 4 = nI (cC R q tt k) by rw [hτ2, setI_ne (by omega)]; exact hcc]
          refine v_callV2 dX2_learn_134 mv_RX2_49 rfl rfl (Nat.le_of_ble_eq_true rfl) ?_
          refine ok_cmeet hm hm2 hB2 hI.1 hvn (fun hne => ?_) (hI.dq hql) (fun hin => ?_) (fun hne τ3 f1 f2 => ?_)
          · have := bfV.len hm (hnl hne)
            rw [List.length_append, List.length_singleton] at this
            omega
          · obtain ⟨e1, he1, he2⟩ := hin
            have hnx := ih (turn + 1) τ2 q _ (some (.int (nI k))) (some (.int (nI (ps (q.getD (tt k) en0).1)))) (by omega) hsum2 hF2 (by rw [hτ2, setI_ne (by omega), hCh.1 _ _ (by omega)]; exact h22) hB2 hT2 (hI.same hk htk he1 he2)
            show V _ _ _ _ _ _ _
            refine v_iinc dX2_learn_137 rfl (Nat.le_of_ble_eq_true rfl) rfl ?_
            refine v_goto dX2_learn_140 ?_
            rw [nI_1]
            exact hnx
          have hnx := ih (turn + 1) τ3 _ _ (some (.int (nI k))) (some (.int (nI (ps (q.getD (tt k) en0).1)))) (by omega) hsum2 ⟨fun a b h => by rw [f2.1 a b (by omega)]; exact hF2.1 a b h, by rw [f2.2.1]; exact hF2.2.1, fun a h => by rw [f2.2.2 a h]; exact hF2.2.2 a h⟩ (by rw [f2.1 _ _ (by omega), hτ2, setI_ne (by omega), hCh.1 _ _ (by omega)]; exact h22) f1 (fun k' hk' => by rw [f2.1 _ _ (by omega)]; exact hT2 k' hk') (hI.add hv hk htk hmin (hnl hne))
          show V _ _ _ _ _ _ _
          refine v_iinc dX2_learn_137 rfl (Nat.le_of_ble_eq_true rfl) rfl ?_
          refine v_goto dX2_learn_140 ?_
          rw [nI_1]
          exact hnx
        · exact absurd zc74 (nI_nm1 (by omega))
      refine v_iload_n dX2_learn_47 rfl ?_
      refine v_ldc dX2_learn_48 cn_RX2_53 ?_
      refine v_icmp_ge dX2_learn_50 (fun zc50 => ?_) (fun zc50 => ?_)
      · exact absurd zc50 (nI_ge (b := 481600) (by omega) (by omega))
      · refine v_aload_n dX2_learn_53 rfl ?_
        refine v_getI dX2_learn_54 fl_RX2_18 rfl ?_
        rw [hB.2.2]
        refine v_if_le dX2_learn_57 (fun zc57 => ?_) (fun zc57 => ?_)
        · have hz : cM R.2.2.2.1 (fun _ => true) q = 0 := by
            rw [show (0 : Int32) = nI 0 from rfl, nI_leI (by omega) (by omega)] at zc57
            omega
          refine v_iconst dX2_learn_68 ?_
          first | exact t69 k τ' _ _ hk htk hmin hCh hcc | (refine t69n (fun v hvm hb => ?_) τ _ _ ⟨fun _ _ _ => rfl, rfl⟩; exact absurd hz (by
            unfold cM
            have := (List.countP_pos_iff (p := fun v => (fun _ => true) v && (bfF v q).isNone)).mpr ⟨v, List.mem_range.mpr hvm, show ((fun _ => true) v && (bfF v q).isNone) = true by rw [hb]; rfl⟩
            omega))
        · refine v_aload_n dX2_learn_60 rfl ?_
          refine v_aload_n dX2_learn_61 rfl ?_
          refine v_callV1 dX2_learn_62 mv_RX2_54 rfl rfl (Nat.le_of_ble_eq_true rfl) ?_
          refine ok_cheapest hr hRt hv hB.1 hT hql (fun k hk => (hI.2.2.2.2.1 k hk).1) (hI.dq hql) (fun hall τ' hCh => ?_) (fun k τ' hk htk hmin hCh hcc => ?_)
          · show V _ _ _ _ (_ :: _) _ _
            refine v_goto dX2_learn_65 ?_
            exact t69n (fun v _ _ => hall) τ' _ _ hCh
          show V _ _ _ _ (_ :: _) _ _
          refine v_goto dX2_learn_65 ?_
          first | exact t69 k τ' _ _ hk htk hmin hCh hcc | (refine t69n (fun v hvm hb => ?_) τ _ _ ⟨fun _ _ _ => rfl, rfl⟩; exact absurd hz (by
            unfold cM
            have := (List.countP_pos_iff (p := fun v => (fun _ => true) v && (bfF v q).isNone)).mpr ⟨v, List.mem_range.mpr hvm, show ((fun _ => true) v && (bfF v q).isNone) = true by rw [hb]; rfl⟩
            omega))
  obtain ⟨τ0, hτ0⟩ : ∃ τ0, τ0 = setI (fillI (fillI (setI (setI (fillL σ 23 2048 0) 22 3 0) 22 4 0) 31 100 (-1)) 32 8 0) 30 3 (nI R.2.2.2.1) := ⟨_, rfl⟩
  have k0 : ∀ a b, ¬ (a = 31 ∨ a = 32 ∨ (a = 22 ∧ (b = 3 ∨ b = 4)) ∨ (a = 30 ∧ b = 3)) → τ0.1 a b = σ.1 a b := fun a b h => by
    rw [hτ0, setI_ne (by omega), fillI_o (by omega), fillI_o (by omega), setI_ne (by omega), setI_ne (by omega)]
    rfl
  have hF0 : CoF σ τ0 := ⟨fun a b h => k0 a b (by omega), by rw [hτ0]; rfl, fun a h => by
    rw [hτ0]
    show (fillL σ 23 2048 0).2.1 a = _
    funext b
    exact if_neg (fun e => h e.1)⟩
  have hs0 : ∀ n, n < 131072 → seen τ0 n = false := fun n hn => by
    rw [hτ0]
    show ((fillL σ 23 2048 0).2.1 23 (n / 64)).toBitVec.getLsbD (n % 64) = false
    rw [show (fillL σ 23 2048 0).2.1 23 (n / 64) = 0 from if_pos ⟨rfl, by omega⟩]
    exact BitVec.getLsbD_zero
  have h22 : τ0.1 22 4 = 0 := by rw [hτ0, setI_ne (by omega), fillI_o (by omega), fillI_o (by omega), setI_same]
  have hB0 : CBc τ0 R.2.2.2.1 [] := by
    refine ⟨⟨?_, fun j e hj => by simp at hj, fun n hn => ?_⟩, fun v hv2 => ⟨fun e he => (by cases he), fun _ => ?_⟩, ?_⟩
    · rw [hτ0, setI_ne (by omega), fillI_o (by omega), fillI_o (by omega), setI_ne (by omega), setI_same]; rfl
    · rw [hs0 n hn]
      constructor
      · intro h; cases h
      · intro ⟨e, he, _⟩; exact absurd he List.not_mem_nil
    · rw [hτ0, setI_ne (by omega), fillI_o (by omega), fillI_i hv2]
    · rw [hτ0, setI_same]
      unfold cM
      have e : (List.range R.2.2.2.1).countP (fun v => (fun _ => true) v && (bfF v []).isNone) = (List.range R.2.2.2.1).length := List.countP_eq_length.mpr (fun v _ => rfl)
      rw [e, List.length_range]
  have hT0 : ∀ k, k < 8 → τ0.1 32 k = nI 0 := fun k hk => by rw [hτ0, setI_ne (by omega), fillI_i hk]; rfl
  refine ok_enter rfl (Nat.le_of_ble_eq_true rfl) ?_
  refine v_aload_n dX2_learn_0 rfl ?_
  refine v_getI dX2_learn_1 fl_RX2_25 rfl ?_
  refine v_if_eq dX2_learn_4 (fun zc4 => ?_) (fun zc4 => ?_)
  · refine v_aload_n dX2_learn_8 rfl ?_
    refine v_getR (q := 22) dX2_learn_9 fl_RX2_29 rfl rfl ?_
    refine v_callV0 dX2_learn_12 mv_RX2_33 rfl rfl (Nat.le_of_ble_eq_true rfl) ?_
    refine ok_rowsEmpty ?_
    show V _ _ _ _ _ _ _
    refine v_aload_n dX2_learn_15 rfl ?_
    refine v_getR (q := 31) dX2_learn_16 fl_RX2_9 rfl rfl ?_
    refine v_iconst dX2_learn_19 ?_
    refine v_callS2 dX2_learn_20 ms_RX2_38 (Nat.le_of_ble_eq_true rfl) ?_
    refine ok_fillI rfl (by decide) ?_
    show V _ _ _ _ _ _ _
    refine v_aload_n dX2_learn_23 rfl ?_
    refine v_getR (q := 32) dX2_learn_24 fl_RX2_15 rfl rfl ?_
    refine v_iconst dX2_learn_27 ?_
    refine v_callS2 dX2_learn_28 ms_RX2_38 (Nat.le_of_ble_eq_true rfl) ?_
    refine ok_fillI rfl (by decide) ?_
    show V _ _ _ _ _ _ _
    refine v_aload_n dX2_learn_31 rfl ?_
    refine v_aload_n dX2_learn_32 rfl ?_
    refine v_getI dX2_learn_33 fl_RX2_44 hr.lay ?_
    rw [fillI_o (by omega), fillI_o (by omega), setI_ne (by omega), setI_ne (by omega), show (fillL σ 23 2048 0).1 r 3 = nI R.2.2.2.1 from hR.2.2.2.1]
    refine v_putI dX2_learn_36 fp_RX2_18 rfl ?_
    rw [← hτ0]
    refine v_aload_n dX2_learn_39 rfl ?_
    refine v_iload_n dX2_learn_40 rfl ?_
    refine v_iconst dX2_learn_41 ?_
    refine v_callV2 dX2_learn_42 mv_RX2_49 rfl rfl (Nat.le_of_ble_eq_true rfl) ?_
    refine ok_cmeet (d := 0) hm hm2 hB0 ⟨by simp, fun e he => absurd he List.not_mem_nil⟩ hs (fun _ => by show 0 < 60200; omega) (fun e he => absurd he List.not_mem_nil) (fun hin => by obtain ⟨e, he, _⟩ := hin; exact absurd he List.not_mem_nil) (fun hne τ3 f1 f2 => ?_)
    have hI0 : KI R s [((s, 0, 0, 0) : En)] (fun _ => 0) := by
      have hm1 : ∀ e ∈ [((s, 0, 0, 0) : En)], e = (s, 0, 0, 0) := fun e he => List.mem_singleton.mp he
      have hg1 : ∀ (j : Nat) (e : En), [((s, 0, 0, 0) : En)][j]? = some e → e = (s, 0, 0, 0) := fun j e he => hm1 e (List.mem_of_getElem? he)
      refine ⟨⟨by simp, fun e he => by rw [hm1 e he]; exact hs⟩, fun i j e e' _ h1 h2 => by rw [hg1 i e h1]; exact Nat.zero_le _, fun j e he => by rw [hg1 j e he]; exact Nat.zero_le _, fun e he => ⟨[], fun k hk => absurd hk List.not_mem_nil, by rw [hm1 e he]; rfl, by rw [hm1 e he]; rfl⟩, fun k _ => ⟨Nat.zero_le _, fun j e hj => absurd hj (Nat.not_lt_zero _)⟩, fun k hk j e e' _ _ he' => by rw [hm1 e' he']; exact Nat.zero_le _, ⟨_, List.mem_singleton.mpr rfl, rfl, rfl⟩⟩
    have hsm : ∀ K, sumK (fun _ => 0) K = 0 := fun K => by
      induction K with
      | zero => rfl
      | succ K ih => exact ih
    show V _ _ _ _ _ _ _
    refine v_iconst dX2_learn_45 ?_
    refine v_istore_n dX2_learn_46 (Nat.le_of_ble_eq_true rfl) rfl ?_
    exact loop 481600 0 τ3 _ (fun _ => 0) _ _ (by omega) (hsm _) ⟨fun a b h => by rw [f2.1 a b (by omega)]; exact hF0.1 a b h, by rw [f2.2.1]; exact hF0.2.1, fun a h => by rw [f2.2.2 a h]; exact hF0.2.2 a h⟩ (by rw [f2.1 _ _ (by omega)]; exact h22) f1 (fun k hk => by rw [f2.1 _ _ (by omega)]; exact hT0 k hk) hI0
  · refine v_return dX2_learn_7 rfl ?_
    have h1 := hC.1.resolve_left zc4
    exact hQ σ ⟨fun _ _ _ => rfl, rfl, fun _ _ => rfl⟩ hC h1 (Or.inl ⟨h1, rfl⟩)
theorem CoF.st (hF : CoF σ τ) (hC : StC σ R s) (h : τ = σ ∨ τ.1 22 4 = 0) : StC τ R s := by
  rcases h with e | h
  · rw [e]; exact hC
  · obtain ⟨a1, a2, a3⟩ := hC
    refine ⟨by rw [hF.1 _ _ (by omega)]; exact a1, Or.inl h, fun hm => ⟨fun h5 v hvm => ?_, fun h4 => absurd h4 (by rw [h]; decide)⟩⟩
    rw [hF.1 _ _ (by omega)] at h5 ⊢
    exact (a3 hm).1 h5 v hvm
theorem ok_cleast {x : Int32} (hP : CP σ r R s) (hC : CoC σ R s) (hS : StC σ R s) (hQ : ∀ τ w, CoF σ τ → CoC τ R s → StC τ R s → LeA R s x.toInt w → Q (some (.int w)) τ) : Ok (D + 5) mX11_least [.ref 0, .int x] σ Q := by
  obtain ⟨hr, hrk, hR, hv, hp0, hs⟩ := id hP
  have hm := hv.m100
  refine ok_enter rfl (Nat.le_of_ble_eq_true rfl) ?_
  refine v_aload_n dX11_least_0 rfl ?_
  refine v_iload_n dX11_least_1 rfl ?_
  refine v_callV1 dX11_least_2 mv_RX11_188 rfl rfl (Nat.le_of_ble_eq_true rfl) ?_
  refine ok_isOnDial hr hrk hR.2.2.2.1 hm ?_
  show V _ _ _ _ (_ :: _) _ _
  refine v_if_ne dX11_least_5 (fun zc5 => ?_) (fun zc5 => ?_)
  · have hx := if10 zc5
    have hxn := x_nI hx.1
    refine v_aload_n dX11_least_11 rfl ?_
    refine v_getR (q := 30) dX11_least_12 fl_RX11_65 rfl rfl ?_
    refine v_aload_n dX11_least_15 rfl ?_
    refine v_getM dX11_least_16 fl_RX11_19 rfl ?_
    rw [hrk]
    refine v_aload_n dX11_least_19 rfl ?_
    refine v_getR (q := 13) dX11_least_20 fl_RX11_29 rfl rfl ?_
    refine v_getI dX11_least_23 fl_RX11_114 rfl ?_
    rw [hp0]
    refine v_callV2 dX11_least_26 mv_RX11_204 rfl rfl (Nat.le_of_ble_eq_true rfl) ?_
    refine ok_clearn hr hR hv (by omega) hs hC (fun τ f1 f2 f3 f4 => ?_)
    obtain ⟨f, hf1, hf2⟩ := f2.2 f3 (by omega) x.toInt.toNat (by omega)
    show V _ _ _ _ _ _ _
    refine v_aload_n dX11_least_29 rfl ?_
    refine v_getR (q := 30) dX11_least_30 fl_RX11_65 rfl rfl ?_
    refine v_getR (q := 31) dX11_least_33 fl_RX11_205 rfl rfl ?_
    refine v_iload_n dX11_least_36 rfl ?_
    refine v_callS2 dX11_least_37 ms_RX11_171 (Nat.le_of_ble_eq_true rfl) ?_
    refine ok_at rfl (by decide) ?_
    rw [hxn, vAt_nI (by omega) (by omega), hf2]
    show V _ _ _ _ (_ :: _) _ _
    refine v_ireturn dX11_least_40 rfl (rfl) ?_
    exact hQ τ _ f1 f2 (f1.st hS (f4.imp (fun h => h.2) id)) (Or.inr ⟨hx, f, hf1, rfl⟩)
  · have hx := if01 zc5
    refine v_ldc dX11_least_8 cn_RX11_97 ?_
    refine v_ireturn dX11_least_10 rfl (rfl) ?_
    exact hQ σ _ ⟨fun _ _ _ => rfl, rfl, fun _ _ => rfl⟩ hC hS (Or.inl ⟨hx, rfl⟩)
end CK
