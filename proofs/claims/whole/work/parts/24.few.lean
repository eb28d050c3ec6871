/-! ===== fewest, ways: what they are, and that the class knows them ===== -/
def anc (F : List En) : Nat → Nat → Nat
  | j, 0 => j
  | j, n + 1 => anc F (F.getD j en0).2.1 n
def wayS (R : Rk) (s : St) (v : Nat) (i : Int) : Int := if 0 ≤ i ∧ i < fewS R s v then (((bfAll R s).getD (anc (bfAll R s) (bfI v (bfAll R s)) (fewS R s v - 1 - i).toNat) en0).2.2.1 : Int) else -1
def nevG (fw : Nat → Int) (x : Int) : Nat → Nat → Int → Int
  | 0, _, n => if x = -1 then n else -1
  | j + 1, v, n => if fw v = -1 then (if n = x then v else nevG fw x j (v + 1) (n + 1)) else nevG fw x j (v + 1) n
def fthG (fw : Nat → Int) : Nat → Nat → Nat → Nat
  | 0, _, b => b
  | j + 1, v, b => fthG fw j (v + 1) (if fw b < fw v then v else b)
def iab (a : Int) : Int := if a < 0 then -a else a
def qkG (fw : Nat → Int) (p e : Int) : Nat → Nat → Int → Int
  | 0, _, b => b
  | j + 1, v, b => qkG fw p e j (v + 1) (if iab (v - p) ≤ e ∧ fw v ≠ -1 ∧ (b = -1 ∨ fw v < fw b.toNat ∨ (fw v = fw b.toNat ∧ iab (v - p) < iab (b - p))) then v else b)
/-- each is one stroke behind the one ahead of it -/
def bfD (q : List En) : Prop := ∀ (j : Nat) (e : En), q[j]? = some e → 0 < j → e.2.2.2 = (q.getD e.2.1 en0).2.2.2 + 1
section FW
variable {D : Nat} {σ τ : Wd} {Q : Option Value → Wd → Prop} {R : Rk} {s : St} {q : List En} {r n : Nat}
theorem bfRow_ind {P : List En → Prop} {i : Nat} (hst : ∀ q k, i < q.length → k < R.2.2.2.2.length → P q → P (bfK R q i k)) (hi : i < q.length) (h : P q) : ∀ k, k ≤ R.2.2.2.2.length → P (bfRow R q i k)
  | 0, _ => h
  | k + 1, hk => hst _ k (Nat.lt_of_lt_of_le hi (bfRow_pre k).length_le) (by omega) (bfRow_ind hst hi h k (by omega))
theorem bfRun_ind {P : List En → Prop} (hst : ∀ q i k, i < q.length → k < R.2.2.2.2.length → P q → P (bfK R q i k)) : ∀ f i q, P q → P (bfRun R f i q)
  | 0, _, _, h => h
  | f + 1, i, q, h => by
    unfold bfRun
    split
    · exact bfRun_ind hst f _ _ (bfRow_ind (fun q k hi hk hp => hst q i k hi hk hp) (by assumption) h _ (Nat.le_refl _))
    · exact h
theorem bfAll_V (hv : vR n R) (hs : vS R.2.2.2.1 s) : bfV R.2.2.2.1 (bfAll R s) :=
  bfRun_ind (P := bfV R.2.2.2.1) (fun _ _ _ hi hk hp => bfK_V hv hk hi hp) _ _ _ ⟨by simp, fun e he => by have : e = (s, 0, 0, 0) := (by simpa using he); rw [this]; exact hs⟩
theorem bfAll_W : bfW R.2.2.2.2.length (bfAll R s) :=
  bfRun_ind (P := bfW R.2.2.2.2.length) (fun _ _ _ hi hk hp => bfW_K hp hi hk) _ _ _ (by
    intro j e hj
    match j, hj with
    | 0, hj => have : (s, 0, 0, 0) = e := by simpa using hj
               subst this
               exact ⟨Nat.le_refl _, fun h => absurd h (by omega)⟩
    | j + 1, hj => simp at hj)
theorem bfAll_D : bfD (bfAll R s) ∧ bfW R.2.2.2.2.length (bfAll R s) :=
  bfRun_ind (P := fun q => bfD q ∧ bfW R.2.2.2.2.length q) (fun q i k hi hk ⟨hp, hw⟩ => by
    refine ⟨?_, bfW_K hw hi hk⟩
    rcases bfK_cases (R := R) (q := q) (i := i) (k := k) with ⟨e, -⟩ | ⟨e, -⟩
    · rw [e]; exact hp
    · rw [e]
      intro j x hj h0
      by_cases hlt : j < q.length
      · rw [List.getElem?_append_left hlt] at hj
        have h1 := hp j x hj h0
        have h2 := ((hw j x hj).2 h0).1
        rw [h1, List.getD, List.getD, List.getElem?_append_left (by omega)]
      · rw [List.getElem?_append_right (by omega)] at hj
        have hz : j - q.length = 0 := by
          rcases Nat.eq_zero_or_pos (j - q.length) with h | h
          · exact h
          · rw [List.getElem?_eq_none (by simp; omega)] at hj; cases hj
        rw [hz] at hj
        have e1 : (nx R (q.getD i en0).1 k, i, k, (q.getD i en0).2.2.2 + 1) = x := by simpa using hj
        rw [← e1]
        show (q.getD i en0).2.2.2 + 1 = ((q ++ _).getD i en0).2.2.2 + 1
        rw [List.getD, List.getD, List.getElem?_append_left hi]) _ _ _ ⟨fun j e hj h0 => by
      match j, hj, h0 with
      | j + 1, hj, _ => simp at hj, by
    intro j e hj
    match j, hj with
    | 0, hj => have : (s, 0, 0, 0) = e := by simpa using hj
               subst this
               exact ⟨Nat.le_refl _, fun h => absurd h (by omega)⟩
    | j + 1, hj => simp at hj⟩
theorem bfAll_len (hv : vR n R) (hm : 0 < R.2.2.2.1) (hm2 : R.2.2.2.1 ≤ 100) (hs : vS R.2.2.2.1 s) : (bfAll R s).length ≤ 60200 := Nat.le_trans (bfV.len hm (bfAll_V hv hs)) (nPl_le hm2)
theorem bfAll_pre : [((s, 0, 0, 0) : En)] <+: bfAll R s := bfRun_pre _ _ _
theorem few_some {v : Nat} {e : En} (h : bfF v (bfAll R s) = some e) : fewS R s v = e.2.2.2 := by
  unfold fewS
  rw [h]
theorem few_none {v : Nat} (h : bfF v (bfAll R s) = none) : fewS R s v = -1 := by
  unfold fewS
  rw [h]
theorem few_rng {v : Nat} (hv : vR n R) (hm : 0 < R.2.2.2.1) (hm2 : R.2.2.2.1 ≤ 100) (hs : vS R.2.2.2.1 s) : -1 ≤ fewS R s v ∧ fewS R s v < 60201 := by
  cases h : bfF v (bfAll R s) with
  | none => rw [few_none h]; omega
  | some e =>
    rw [few_some h]
    have := bfAll_W.dist (bfAll_len hv hm hm2 hs) e (List.mem_of_find?_eq_some h)
    omega
theorem vR.mono {a b : Nat} (h : vR a R) (hab : a ≤ b) : vR b R := by
  rcases h with h | ⟨h1, h2, h3, h4, h5, h6, h7, h8, h9⟩
  · exact Or.inl h
  · exact Or.inr ⟨h1, h2, h3, h4, h5, h6, h7, by omega, h9⟩
theorem vR.m100 {a : Nat} (h : vR a R) : R.2.2.2.1 ≤ 100 := by
  rcases h with h | ⟨h1, h2, h3, h4, h5, h6, h7, h8, h9⟩
  · rw [h]; decide
  · exact h7
theorem vR.n9 {a : Nat} (h : vR a R) : R.2.2.2.2.length ≤ a := by
  rcases h with h | ⟨h1, h2, h3, h4, h5, h6, h7, h8, h9⟩
  · rw [h]; exact Nat.zero_le _
  · exact h8
/-- what the class keeps of fewest and ways -/
def StC (σ : Wd) (R : Rk) (s : St) : Prop := (σ.1 26 5 = 0 ∨ σ.1 26 5 = 1) ∧ (σ.1 22 4 = 0 ∨ σ.1 22 4 = 1) ∧ (0 < R.2.2.2.1 → (σ.1 26 5 = 1 → ∀ v, v < R.2.2.2.1 → σ.1 27 v = iz (fewS R s v)) ∧ (σ.1 22 4 = 1 → σ.1 26 5 = 1 ∧ ∃ q : List En, q <+: bfAll R s ∧ 0 < q.length ∧ CQ σ q ∧ CW σ q ∧ ∀ v, v < R.2.2.2.1 → bfF v q = bfF v (bfAll R s)))
def StFr (σ τ : Wd) : Prop := (∀ a b, ¬ (a = 24 ∨ a = 25 ∨ a = 27 ∨ a = 28 ∨ a = 29 ∨ (a = 22 ∧ (b = 3 ∨ b = 4)) ∨ (a = 26 ∧ (b = 4 ∨ b = 5))) → τ.1 a b = σ.1 a b) ∧ τ.2.2 = σ.2.2 ∧ ∀ a, a ≠ 23 → τ.2.1 a = σ.2.1 a
theorem StFr.rf : StFr σ σ := ⟨fun _ _ _ => rfl, rfl, fun _ _ => rfl⟩
theorem StFr.tr {a b c : Wd} (h1 : StFr a b) (h2 : StFr b c) : StFr a c := ⟨fun x y h => by rw [h2.1 x y h, h1.1 x y h], by rw [h2.2.1, h1.2.1], fun x h => by rw [h2.2.2 x h, h1.2.2 x h]⟩
theorem ok_learn (hr : vIsR r) (hR : RepR σ r R) (hv : vR 8 R) (hm0 : 0 < R.2.2.2.1) (hs : vS R.2.2.2.1 s) (hC : StC σ R s) (hQ : ∀ τ, StFr σ τ → StC τ R s → τ.1 26 5 = 1 → ((σ.1 26 5 = 1 ∧ τ = σ) ∨ τ.1 22 4 = 1) → Q none τ) : Ok (D + 5) mX8_learn [.ref 26, .ref r, .int (nI (ps s))] σ Q := by
  have hm := hv.m100
  have hv9 := hv.mono (show 8 ≤ 9 by decide)
  have hr12 : r + 4 < 13 ∧ 3 ≤ r := by rcases hr with rfl | rfl <;> omega
  obtain ⟨c1, c2, c3⟩ := id hC
  have hcount : (List.range R.2.2.2.1).countP (fun _ => true) = R.2.2.2.1 := by rw [List.countP_true, List.length_range]
  refine ok_enter rfl (Nat.le_of_ble_eq_true rfl) ?_
  refine v_aload_n dX8_learn_0 rfl ?_
  refine v_getI dX8_learn_1 fl_RX8_25 rfl ?_
  refine v_if_ne dX8_learn_4 (fun zc4 => ?_) (fun zc4 => ?_)
  · refine v_return dX8_learn_42 rfl ?_
    first | exact hQ σ StFr.rf hC (c1.resolve_left zc4) (Or.inl ⟨c1.resolve_left zc4, rfl⟩) | exact hQ _ hfr2 hst2 rfl (Or.inr (by rw [setI_ne (by omega), setI_same]))
  · refine v_aload_n dX8_learn_7 rfl ?_
    refine v_getR (q := 29) dX8_learn_8 fl_RX8_18 rfl rfl ?_
    refine v_iconst dX8_learn_11 ?_
    refine v_callS2 dX8_learn_12 ms_RX8_50 (Nat.le_of_ble_eq_true rfl) ?_
    refine ok_fillI rfl (by decide) ?_
    show V _ _ _ _ _ _ _
    refine v_aload_n dX8_learn_15 rfl ?_
    refine v_aload_n dX8_learn_16 rfl ?_
    refine v_getI dX8_learn_17 fl_RX8_56 hr.lay ?_
    rw [fillI_o (by omega), hR.2.2.2.1]
    refine v_putI dX8_learn_20 fp_RX8_21 rfl ?_
    refine v_aload_n dX8_learn_23 rfl ?_
    refine v_aload_n dX8_learn_24 rfl ?_
    refine v_iload_n dX8_learn_25 rfl ?_
    refine v_callV2 dX8_learn_26 mv_RX8_61 rfl rfl (Nat.le_of_ble_eq_true rfl) ?_
    refine ok_spread (W := fun _ => true) hr (hR.kept (fun a b h1 h2 => by rw [setI_ne (by omega), fillI_o (by omega)])) hv9 hm0 hs (by rw [setI_same, hcount]) (fun v hv => by rw [setI_ne (by omega), fillI_i hv]; rfl) (fun τ hF hS => ?_)
    obtain ⟨q, q1, q2, q3, q4, q5, q6⟩ := hS
    have hfr2 : StFr σ (setI (setI τ 22 4 1) 26 5 1) := ⟨fun a b h => by rw [setI_ne (by omega), setI_ne (by omega), hF.1 a b (by omega), setI_ne (by omega), fillI_o (by omega)], by show τ.2.2 = _; rw [hF.2.2.1]; rfl, fun a h => by show τ.2.1 a = _; rw [hF.2.2.2 a h]; rfl⟩
    have hst2 : StC (setI (setI τ 22 4 1) 26 5 1) R s := by
      have hcq : CQ (setI (setI τ 22 4 1) 26 5 1) q := by
        refine ⟨by rw [setI_ne (by omega), setI_ne (by omega)]; exact q5.1.1, fun j e hj => ?_, fun n hn => q5.1.2.2 n hn⟩
        rw [setI_ne (by omega), setI_ne (by omega), setI_ne (by omega), setI_ne (by omega)]
        exact q5.1.2.1 j e hj
      have hcw : CW (setI (setI τ 22 4 1) 26 5 1) q := by
        intro v hv
        rw [setI_ne (by omega), setI_ne (by omega), setI_ne (by omega), setI_ne (by omega)]
        exact q5.2.1 v hv
      refine ⟨Or.inr (setI_same), Or.inr (by rw [setI_ne (by omega), setI_same]), fun _ => ⟨fun _ v hv => ?_, fun _ => ⟨setI_same, q, q1, q2, hcq, hcw, fun v hv => q6 v hv rfl⟩⟩⟩
      have h6 := q6 v hv rfl
      cases hb : bfF v q with
      | some e =>
        rw [((hcw v (by omega)).1 e hb).1, few_some (by rw [← h6]; exact hb), iz_nI]
      | none =>
        rw [(hcw v (by omega)).2 hb, few_none (by rw [← h6]; exact hb)]
        rfl
    show V _ _ _ _ _ _ _
    refine v_aload_n dX8_learn_29 rfl ?_
    refine v_getR (q := 22) dX8_learn_30 fl_RX8_41 rfl rfl ?_
    refine v_iconst dX8_learn_33 ?_
    refine v_putI dX8_learn_34 fp_RX8_47 rfl ?_
    refine v_aload_n dX8_learn_37 rfl ?_
    refine v_iconst dX8_learn_38 ?_
    refine v_putZ dX8_learn_39 fp_RX8_25 rfl (by first | exact Or.inl rfl | exact Or.inr rfl) ?_
    refine v_return dX8_learn_42 rfl ?_
    first | exact hQ σ StFr.rf hC (c1.resolve_left zc4) (Or.inl ⟨c1.resolve_left zc4, rfl⟩) | exact hQ _ hfr2 hst2 rfl (Or.inr (by rw [setI_ne (by omega), setI_same]))
theorem ok_meet0 {t : St} {x : Int32} (ht : vS 0 t) (h1 : seen σ (ps t) = false) (h2 : σ.1 22 3 = 0) (h3 : σ.1 27 0 = -1) (hQ : ∀ τ, CFr σ τ → τ.1 22 3 = 1 → τ.1 26 4 = σ.1 26 4 - σ.1 29 0 → Q none τ) : Ok (D + 2) mX8_meet [.ref 26, .int (nI (ps t)), .int x, .int 0] σ Q := by
  have hpl := ps_lt (show 0 ≤ 100 by decide) ht
  have e1 := ps_sh (show 0 ≤ 100 by decide) ht
  have ht0 : t.1 = 0 := by have := ht.1; omega
  rw [ht0] at e1
  refine ok_enter rfl (Nat.le_of_ble_eq_true rfl) ?_
  refine v_aload_n dX8_meet_0 rfl ?_
  refine v_getR (q := 22) dX8_meet_1 fl_RX8_41 rfl rfl ?_
  refine v_iload_n dX8_meet_4 rfl ?_
  refine v_callV1 dX8_meet_5 mv_RX8_100 rfl rfl (Nat.le_of_ble_eq_true rfl) ?_
  refine ok_mark hpl (fun hs1 => by rw [h1] at hs1; cases hs1) (fun hs1 σ1 g1 g2 g3 g4 => ?_)
  show V _ _ _ _ (_ :: _) _ _
  refine v_if_ne dX8_meet_8 (fun zc8 => ?_) (fun zc8 => ?_)
  · refine v_aload_n dX8_meet_12 rfl ?_
    refine v_getR (q := 22) dX8_meet_13 fl_RX8_41 rfl rfl ?_
    refine v_iload_n dX8_meet_16 rfl ?_
    refine v_iload_n dX8_meet_17 rfl ?_
    refine v_callV2 dX8_meet_18 mv_RX8_104 rfl rfl (Nat.le_of_ble_eq_true rfl) ?_
    refine ok_rowsAppend (c := 0) (by rw [g1]; exact h2) (by decide) ?_
    show V _ _ _ _ _ _ _
    refine v_iload_n dX8_meet_21 rfl ?_
    refine v_callS1 dX8_meet_22 ms_RX8_108 (Nat.le_of_ble_eq_true rfl) ?_
    refine ok_shownIn ?_
    rw [e1]
    show V _ _ _ _ (_ :: _) _ _
    refine v_istore dX8_meet_25 (Nat.le_of_ble_eq_true rfl) rfl ?_
    refine v_iload dX8_meet_27 rfl ?_
    refine v_bipush dX8_meet_29 ?_
    refine v_icmp_ge dX8_meet_31 (fun zc31 => ?_) (fun zc31 => ?_)
    · exact absurd zc31 (by decide)
    · refine v_aload_n dX8_meet_34 rfl ?_
      refine v_getR (q := 27) dX8_meet_35 fl_RX8_9 rfl rfl ?_
      refine v_iload dX8_meet_38 rfl ?_
      refine v_iaload dX8_meet_40 rfl (by exact vp_in_nI (by omega) (by omega)) ?_
      rw [nI_clamp (by omega), setI_ne (by omega), setI_ne (by omega), setI_ne (by omega), g1, h3]
      refine v_iconst dX8_meet_41 ?_
      refine v_icmp_ne dX8_meet_42 (fun zc42 => ?_) (fun zc42 => ?_)
      · exact absurd rfl zc42
      · refine v_aload_n dX8_meet_45 rfl ?_
        refine v_getR (q := 27) dX8_meet_46 fl_RX8_9 rfl rfl ?_
        refine v_iload dX8_meet_49 rfl ?_
        refine v_iload_n dX8_meet_51 rfl ?_
        refine v_iastore dX8_meet_52 rfl (by exact vp_in_nI (by omega) (by omega)) ?_
        rw [nI_clamp (by omega)]
        refine v_aload_n dX8_meet_53 rfl ?_
        refine v_getR (q := 28) dX8_meet_54 fl_RX8_15 rfl rfl ?_
        refine v_iload dX8_meet_57 rfl ?_
        refine v_aload_n dX8_meet_59 rfl ?_
        refine v_getR (q := 22) dX8_meet_60 fl_RX8_41 rfl rfl ?_
        refine v_getI dX8_meet_63 fl_RX8_87 rfl ?_
        rw [setI_ne (by omega), setI_same]
        refine v_iconst dX8_meet_66 ?_
        refine v_isub dX8_meet_67 ?_
        refine v_iastore dX8_meet_68 rfl (by exact vp_in_nI (by omega) (by omega)) ?_
        rw [nI_clamp (by omega)]
        refine v_aload_n dX8_meet_69 rfl ?_
        refine v_dup dX8_meet_70 rfl ?_
        refine v_getI dX8_meet_71 fl_RX8_21 rfl ?_
        rw [setI_ne (by omega), setI_ne (by omega), setI_ne (by omega), setI_ne (by omega), setI_ne (by omega), g1]
        refine v_aload_n dX8_meet_74 rfl ?_
        refine v_getR (q := 29) dX8_meet_75 fl_RX8_18 rfl rfl ?_
        refine v_iload dX8_meet_78 rfl ?_
        refine v_iaload dX8_meet_80 rfl (by exact vp_in_nI (by omega) (by omega)) ?_
        rw [nI_clamp (by omega), setI_ne (by omega), setI_ne (by omega), setI_ne (by omega), setI_ne (by omega), setI_ne (by omega), g1]
        refine v_isub dX8_meet_81 ?_
        refine v_putI dX8_meet_82 fp_RX8_21 rfl ?_
        refine v_return dX8_meet_85 rfl ?_
        refine hQ _ ⟨fun a b h => by rw [setI_ne (by omega), setI_ne (by omega), setI_ne (by omega), setI_ne (by omega), setI_ne (by omega), setI_ne (by omega), g1], g2, g3⟩ ?_ ?_
        · rw [setI_ne (by omega), setI_ne (by omega), setI_ne (by omega), setI_same]; rfl
        · rw [setI_same]
  · exact absurd zc8 (by decide)
theorem ok_spread0 (hr : vIsR r) (hs : vS 0 s) (hmi : σ.1 26 4 = 0) (hwa : σ.1 29 0 = 1) (hQ : ∀ τ, SFr σ τ → Q none τ) : Ok (D + 4) mX8_spread [.ref 26, .ref r, .int (nI (ps s))] σ Q := by
  obtain ⟨σ0, hσ0⟩ : ∃ σ0, σ0 = fillI (setI (setI (fillL σ 23 2048 0) 22 3 0) 22 4 0) 27 100 (-1) := ⟨_, rfl⟩
  have hpl := ps_lt (show 0 ≤ 100 by decide) hs
  have k0 : ∀ a b, ¬ (a = 27 ∨ (a = 22 ∧ b = 3) ∨ (a = 22 ∧ b = 4)) → σ0.1 a b = σ.1 a b := fun a b h => by
    rw [hσ0, fillI_o (by omega), setI_ne (by omega), setI_ne (by omega)]; rfl
  have hfin : ∀ τ, CFr σ0 τ → SFr σ τ := by
    intro τ h
    refine ⟨fun a b hab => by rw [h.1 a b (by omega), k0 a b (by omega)], ?_, ?_, fun a ha => ?_⟩
    · rw [h.1 _ _ (by omega), hσ0, fillI_o (by omega), setI_same]
    · rw [h.2.1, hσ0]; rfl
    · rw [h.2.2 a ha, hσ0]
      show (fun b => if a = 23 ∧ b < 2048 then (0 : Int64) else σ.2.1 a b) = σ.2.1 a
      funext b
      rw [if_neg (fun e => ha e.1)]
  refine ok_enter rfl (Nat.le_of_ble_eq_true rfl) ?_
  refine v_aload_n dX8_spread_0 rfl ?_
  refine v_getR (q := 22) dX8_spread_1 fl_RX8_41 rfl rfl ?_
  refine v_callV0 dX8_spread_4 mv_RX8_79 rfl rfl (Nat.le_of_ble_eq_true rfl) ?_
  refine ok_rowsEmpty ?_
  show V _ _ _ _ _ _ _
  refine v_aload_n dX8_spread_7 rfl ?_
  refine v_getR (q := 27) dX8_spread_8 fl_RX8_9 rfl rfl ?_
  refine v_iconst dX8_spread_11 ?_
  refine v_callS2 dX8_spread_12 ms_RX8_50 (Nat.le_of_ble_eq_true rfl) ?_
  refine ok_fillI rfl (by decide) ?_
  rw [← hσ0]
  show V _ _ _ _ _ _ _
  refine v_aload_n dX8_spread_15 rfl ?_
  refine v_iload_n dX8_spread_16 rfl ?_
  refine v_iconst dX8_spread_17 ?_
  refine v_iconst dX8_spread_18 ?_
  refine v_callV3 dX8_spread_19 mv_RX8_82 rfl rfl (Nat.le_of_ble_eq_true rfl) ?_
  refine ok_meet0 hs ?_ (by rw [hσ0, fillI_o (by omega), setI_ne (by omega), setI_same]) (by rw [hσ0, fillI_i (by omega)]) (fun τ hF h3 h4 => ?_)
  · unfold seen
    rw [hσ0]
    show ((if 23 = 23 ∧ ps s / 64 < 2048 then (0 : Int64) else σ.2.1 23 (ps s / 64)) : Int64).toBitVec.getLsbD (ps s % 64) = false
    rw [if_pos ⟨rfl, by omega⟩]
    simp
  rw [k0 _ _ (by omega), k0 _ _ (by omega), hmi, hwa] at h4
  show V _ _ _ _ _ _ _
  refine v_iconst dX8_spread_22 ?_
  refine v_istore_n dX8_spread_23 (Nat.le_of_ble_eq_true rfl) rfl ?_
  refine v_iconst dX8_spread_24 ?_
  refine v_istore dX8_spread_25 (Nat.le_of_ble_eq_true rfl) rfl ?_
  refine v_iconst dX8_spread_27 ?_
  refine v_istore dX8_spread_28 (Nat.le_of_ble_eq_true rfl) rfl ?_
  refine v_iload dX8_spread_30 rfl ?_
  refine v_ldc dX8_spread_32 cn_RX8_86 ?_
  refine v_icmp_ge dX8_spread_34 (fun zc34 => ?_) (fun zc34 => ?_)
  · exact absurd zc34 (by decide)
  · refine v_iload dX8_spread_37 rfl ?_
    refine v_aload_n dX8_spread_39 rfl ?_
    refine v_getR (q := 22) dX8_spread_40 fl_RX8_41 rfl rfl ?_
    refine v_getI dX8_spread_43 fl_RX8_87 rfl ?_
    rw [h3]
    refine v_icmp_ge dX8_spread_46 (fun zc46 => ?_) (fun zc46 => ?_)
    · exact absurd zc46 (by decide)
    · refine v_aload_n dX8_spread_49 rfl ?_
      refine v_getI dX8_spread_50 fl_RX8_21 rfl ?_
      rw [h4]
      refine v_if_gt dX8_spread_53 (fun zc53 => ?_) (fun zc53 => ?_)
      · exact absurd zc53 (by decide)
      · refine v_goto dX8_spread_56 ?_
        refine v_return dX8_spread_136 rfl ?_
        exact hQ τ (hfin τ hF)
theorem ok_learn0 (hr : vIsR r) (h3 : σ.1 r 3 = 0) (hm0 : R.2.2.2.1 = 0) (hs : vS 0 s) (hC : StC σ R s) (hQ : ∀ τ, StFr σ τ → StC τ R s → Q none τ) : Ok (D + 5) mX8_learn [.ref 26, .ref r, .int (nI (ps s))] σ Q := by
  have hr12 : r + 4 < 13 ∧ 3 ≤ r := by rcases hr with rfl | rfl <;> omega
  refine ok_enter rfl (Nat.le_of_ble_eq_true rfl) ?_
  refine v_aload_n dX8_learn_0 rfl ?_
  refine v_getI dX8_learn_1 fl_RX8_25 rfl ?_
  refine v_if_ne dX8_learn_4 (fun zc4 => ?_) (fun zc4 => ?_)
  · refine v_return dX8_learn_42 rfl ?_
    first | exact hQ σ StFr.rf hC | exact hQ _ ⟨fun a b h => by rw [setI_ne (by omega), setI_ne (by omega), hF.1 a b (by omega), setI_ne (by omega), fillI_o (by omega)], by show τ.2.2 = _; rw [hF.2.2.1]; rfl, fun a h => by show τ.2.1 a = _; rw [hF.2.2.2 a h]; rfl⟩ ⟨Or.inr setI_same, Or.inr (by rw [setI_ne (by omega), setI_same]), fun h => absurd h (by omega)⟩
  · refine v_aload_n dX8_learn_7 rfl ?_
    refine v_getR (q := 29) dX8_learn_8 fl_RX8_18 rfl rfl ?_
    refine v_iconst dX8_learn_11 ?_
    refine v_callS2 dX8_learn_12 ms_RX8_50 (Nat.le_of_ble_eq_true rfl) ?_
    refine ok_fillI rfl (by decide) ?_
    show V _ _ _ _ _ _ _
    refine v_aload_n dX8_learn_15 rfl ?_
    refine v_aload_n dX8_learn_16 rfl ?_
    refine v_getI dX8_learn_17 fl_RX8_56 hr.lay ?_
    rw [fillI_o (by omega), h3]
    refine v_putI dX8_learn_20 fp_RX8_21 rfl ?_
    refine v_aload_n dX8_learn_23 rfl ?_
    refine v_aload_n dX8_learn_24 rfl ?_
    refine v_iload_n dX8_learn_25 rfl ?_
    refine v_callV2 dX8_learn_26 mv_RX8_61 rfl rfl (Nat.le_of_ble_eq_true rfl) ?_
    refine ok_spread0 hr hs (by rw [setI_same]) (by rw [setI_ne (by omega), fillI_i (by omega)]) (fun τ hF => ?_)
    show V _ _ _ _ _ _ _
    refine v_aload_n dX8_learn_29 rfl ?_
    refine v_getR (q := 22) dX8_learn_30 fl_RX8_41 rfl rfl ?_
    refine v_iconst dX8_learn_33 ?_
    refine v_putI dX8_learn_34 fp_RX8_47 rfl ?_
    refine v_aload_n dX8_learn_37 rfl ?_
    refine v_iconst dX8_learn_38 ?_
    refine v_putZ dX8_learn_39 fp_RX8_25 rfl (by first | exact Or.inl rfl | exact Or.inr rfl) ?_
    refine v_return dX8_learn_42 rfl ?_
    first | exact hQ σ StFr.rf hC | exact hQ _ ⟨fun a b h => by rw [setI_ne (by omega), setI_ne (by omega), hF.1 a b (by omega), setI_ne (by omega), fillI_o (by omega)], by show τ.2.2 = _; rw [hF.2.2.1]; rfl, fun a h => by show τ.2.1 a = _; rw [hF.2.2.2 a h]; rfl⟩ ⟨Or.inr setI_same, Or.inr (by rw [setI_ne (by omega), setI_same]), fun h => absurd h (by omega)⟩
theorem ok_learnWays (hr : vIsR r) (hR : RepR σ r R) (hv : vR 8 R) (hm0 : 0 < R.2.2.2.1) (hs : vS R.2.2.2.1 s) (hC : StC σ R s) (hQ : ∀ τ, StFr σ τ → StC τ R s → τ.1 22 4 = 1 → Q none τ) : Ok (D + 6) mX8_learnWays [.ref 26, .ref r, .int (nI (ps s))] σ Q := by
  have hr12 : r + 4 < 13 ∧ 3 ≤ r := by rcases hr with rfl | rfl <;> omega
  obtain ⟨c1, c2, c3⟩ := id hC
  refine ok_enter rfl (Nat.le_of_ble_eq_true rfl) ?_
  refine v_aload_n dX8_learnWays_0 rfl ?_
  refine v_getR (q := 22) dX8_learnWays_1 fl_RX8_41 rfl rfl ?_
  refine v_getI dX8_learnWays_4 fl_RX8_47 rfl ?_
  refine v_iconst dX8_learnWays_7 ?_
  refine v_icmp_eq dX8_learnWays_8 (fun zc8 => ?_) (fun zc8 => ?_)
  · refine v_aload_n dX8_learnWays_16 rfl ?_
    refine v_aload_n dX8_learnWays_17 rfl ?_
    refine v_iload_n dX8_learnWays_18 rfl ?_
    refine v_callV2 dX8_learnWays_19 mv_RX8_65 rfl rfl (Nat.le_of_ble_eq_true rfl) ?_
    first | refine ok_learn hr hR hv hm0 hs hC (fun τ f1 f2 f3 f4 => ?_) | refine ok_learn hr (hR.kept (fun a b h1 h2 => by rw [setI_ne (by omega)])) hv hm0 hs ⟨Or.inl setI_same, by rw [setI_ne (by omega)]; exact c2, fun h => ⟨fun h2 => absurd h2 (by rw [setI_same]; decide), fun h2 => absurd (by rw [setI_ne (by omega)] at h2; exact h2) zc8⟩⟩ (fun τ f1 f2 f3 f4 => ?_)
    show V _ _ _ _ _ _ _
    refine v_return dX8_learnWays_22 rfl ?_
    first | (refine hQ τ f1 f2 ?_; rcases f4 with ⟨g1, g2⟩ | g; (rw [g2]; exact zc8); exact g) | (refine hQ τ ⟨fun a b h => by rw [f1.1 a b h, setI_ne (by omega)], f1.2.1, f1.2.2⟩ f2 ?_; rcases f4 with ⟨g1, g2⟩ | g; (rw [setI_same] at g1; exact absurd g1 (by decide)); exact g)
  · refine v_aload_n dX8_learnWays_11 rfl ?_
    refine v_iconst dX8_learnWays_12 ?_
    refine v_putZ dX8_learnWays_13 fp_RX8_25 rfl (by first | exact Or.inl rfl | exact Or.inr rfl) ?_
    refine v_aload_n dX8_learnWays_16 rfl ?_
    refine v_aload_n dX8_learnWays_17 rfl ?_
    refine v_iload_n dX8_learnWays_18 rfl ?_
    refine v_callV2 dX8_learnWays_19 mv_RX8_65 rfl rfl (Nat.le_of_ble_eq_true rfl) ?_
    first | refine ok_learn hr hR hv hm0 hs hC (fun τ f1 f2 f3 f4 => ?_) | refine ok_learn hr (hR.kept (fun a b h1 h2 => by rw [setI_ne (by omega)])) hv hm0 hs ⟨Or.inl setI_same, by rw [setI_ne (by omega)]; exact c2, fun h => ⟨fun h2 => absurd h2 (by rw [setI_same]; decide), fun h2 => absurd (by rw [setI_ne (by omega)] at h2; exact h2) zc8⟩⟩ (fun τ f1 f2 f3 f4 => ?_)
    show V _ _ _ _ _ _ _
    refine v_return dX8_learnWays_22 rfl ?_
    first | (refine hQ τ f1 f2 ?_; rcases f4 with ⟨g1, g2⟩ | g; (rw [g2]; exact zc8); exact g) | (refine hQ τ ⟨fun a b h => by rw [f1.1 a b h, setI_ne (by omega)], f1.2.1, f1.2.2⟩ f2 ?_; rcases f4 with ⟨g1, g2⟩ | g; (rw [setI_same] at g1; exact absurd g1 (by decide)); exact g)
theorem bfI_pre {v : Nat} {a b : List En} {e : En} (h : a <+: b) (hf : bfF v a = some e) : bfI v b = bfI v a := by
  obtain ⟨t, rfl⟩ := h
  unfold bfI
  rw [List.findIdx_append, if_pos]
  unfold bfF at hf
  have h1 := List.mem_of_find?_eq_some hf
  have h2 := List.find?_some hf
  exact List.findIdx_lt_length_of_exists ⟨e, h1, h2⟩
theorem bfI_get {v : Nat} {a : List En} {e : En} (hf : bfF v a = some e) : a[bfI v a]? = some e := by
  unfold bfF at hf
  unfold bfI
  induction a with
  | nil => cases hf
  | cons x l ih =>
    rw [List.find?_cons] at hf
    rw [List.findIdx_cons]
    cases hx : decide (x.1.1 = v) with
    | true => rw [hx] at hf; simpa using hf
    | false => rw [hx] at hf; simpa using ih hf
theorem ok_keyOfWay {v : Nat} {x : Int32} (hv : vR 8 R) (hm0 : 0 < R.2.2.2.1) (hs : vS R.2.2.2.1 s) (hC : StC σ R s) (hh : σ.1 22 4 = 1) (hvm : v < R.2.2.2.1) (hQ : Q (some (.int (iz (wayS R s v x.toInt)))) σ) : Ok (D + 2) mX8_keyOfWay [.ref 26, .int (nI v), .int x] σ Q := by
  have hm := hv.m100
  have hnk := hv.n9
  obtain ⟨c1, c2, c3⟩ := id hC
  obtain ⟨d1, d2⟩ := c3 hm0
  obtain ⟨hk, q, q1, q2, q3, q4, q5⟩ := d2 hh
  have hfw := d1 hk v hvm
  obtain ⟨r1, r2⟩ := few_rng (v := v) hv hm0 hm hs
  have hFl := bfAll_len hv hm0 hm hs
  have hql := q1.length_le
  unfold wayS at hQ
  have hTl : (iz (fewS R s v)).toInt = fewS R s v := iz_toInt (by omega) (by omega)
  obtain ⟨hx1, hx2⟩ := iz_rng x
  have hxe := iz_of x
  generalize hxi : x.toInt = xi at *
  subst hxe
  have hW := bfAll_W (R := R) (s := s)
  have hD := (bfAll_D (R := R) (s := s)).1
  have ent : ∀ p, p < q.length → q[p]? = some ((bfAll R s).getD p en0) ∧ (bfAll R s)[p]? = some ((bfAll R s).getD p en0) := by
    intro p hp
    constructor
    · rw [pre_getD q1 hp, List.getD, List.getElem?_eq_getElem hp]; rfl
    · rw [List.getD, List.getElem?_eq_getElem (by omega)]; rfl
  have loop : ∀ (n p : Nat), p < q.length → 0 ≤ xi → (((bfAll R s).getD p en0).2.2.2 : Int) = xi + 1 + n → Q (some (.int (iz (((bfAll R s).getD (anc (bfAll R s) p n) en0).2.2.1 : Nat)))) σ → V mX8_keyOfWay (D + 2) 32 [some (.ref 26), some (.int (nI v)), some (.int (iz xi)), some (.int (iz (fewS R s v))), some (.int (nI p)), some (.int (iz (xi + n)))] [] σ Q := by
    intro n
    induction n with
    | zero =>
      intro p hp h0 hd hq
      obtain ⟨e1, e2⟩ := ent p hp
      have hp0 : 0 < p := by have := (hW p _ e2).1; omega
      have hnt := (q3.2.1 p _ e1).2 hp0
      have hkk := ((hW p _ e2).2 hp0)
      refine v_iload dX8_keyOfWay_32 rfl ?_
      refine v_iload_n dX8_keyOfWay_34 rfl ?_
      refine v_icmp_le dX8_keyOfWay_35 (fun zc35 => ?_) (fun zc35 => ?_)
      · try simp (disch := omega) only [iz_lit, iz_nI, iz_neg, iz_add, iz_sub, iz_mul, iz_lt, iz_le, iz_eq] at zc35
        refine v_aload_n dX8_keyOfWay_60 rfl ?_
        refine v_getR (q := 22) dX8_keyOfWay_61 fl_RX8_41 rfl rfl ?_
        refine v_getR (q := 25) dX8_keyOfWay_64 fl_RX8_76 rfl rfl ?_
        refine v_iload dX8_keyOfWay_67 rfl ?_
        refine v_callS2 dX8_keyOfWay_69 ms_RX8_68 (Nat.le_of_ble_eq_true rfl) ?_
        refine ok_at rfl (by decide) ?_
        rw [vAt_nI (by omega) (by omega), hnt]
        show V _ _ _ _ (_ :: _) _ _
        refine v_bipush dX8_keyOfWay_72 ?_
        refine v_iand dX8_keyOfWay_74 ?_
        refine v_ireturn dX8_keyOfWay_75 rfl (rfl) ?_
        rw [pk_andN (by omega) (m := 15) 4 rfl, iz_nI, show (16 * ((bfAll R s).getD p en0).2.1 + ((bfAll R s).getD p en0).2.2.1) % 2 ^ 4 = ((bfAll R s).getD p en0).2.2.1 by omega]
        exact hq
      · try simp (disch := omega) only [iz_lit, iz_nI, iz_neg, iz_add, iz_sub, iz_mul, iz_lt, iz_le, iz_eq] at zc35
        exfalso; omega
    | succ n ih =>
      intro p hp h0 hd hq
      obtain ⟨e1, e2⟩ := ent p hp
      have hp0 : 0 < p := by have := (hW p _ e2).1; omega
      have hnt := (q3.2.1 p _ e1).2 hp0
      have hkk := ((hW p _ e2).2 hp0)
      have hdd := hD p _ e2 hp0
      have hpl := (hW p _ e2).1
      have hnx := ih ((bfAll R s).getD p en0).2.1 (by omega) h0 (by omega) hq
      refine v_iload dX8_keyOfWay_32 rfl ?_
      refine v_iload_n dX8_keyOfWay_34 rfl ?_
      refine v_icmp_le dX8_keyOfWay_35 (fun zc35 => ?_) (fun zc35 => ?_)
      · try simp (disch := omega) only [iz_lit, iz_nI, iz_neg, iz_add, iz_sub, iz_mul, iz_lt, iz_le, iz_eq] at zc35
        exfalso; omega
      · try simp (disch := omega) only [iz_lit, iz_nI, iz_neg, iz_add, iz_sub, iz_mul, iz_lt, iz_le, iz_eq] at zc35
        refine v_aload_n dX8_keyOfWay_38 rfl ?_
        refine v_getR (q := 22) dX8_keyOfWay_39 fl_RX8_41 rfl rfl ?_
        refine v_getR (q := 25) dX8_keyOfWay_42 fl_RX8_76 rfl rfl ?_
        refine v_iload dX8_keyOfWay_45 rfl ?_
        refine v_callS2 dX8_keyOfWay_47 ms_RX8_68 (Nat.le_of_ble_eq_true rfl) ?_
        refine ok_at rfl (by decide) ?_
        rw [vAt_nI (by omega) (by omega), hnt]
        show V _ _ _ _ (_ :: _) _ _
        refine v_iconst dX8_keyOfWay_50 ?_
        refine v_ishr dX8_keyOfWay_51 ?_
        rw [pk_shrN (by omega) _ 4 rfl, show (16 * ((bfAll R s).getD p en0).2.1 + ((bfAll R s).getD p en0).2.2.1) / 2 ^ 4 = ((bfAll R s).getD p en0).2.1 by omega]
        refine v_istore dX8_keyOfWay_52 (Nat.le_of_ble_eq_true rfl) rfl ?_
        refine v_iinc dX8_keyOfWay_54 rfl (Nat.le_of_ble_eq_true rfl) rfl ?_
        refine v_goto dX8_keyOfWay_57 ?_
        rw [show (-1 : Int32) = iz (-1) from rfl, iz_add, show xi + ((n + 1 : Nat) : Int) + (-1) = xi + (n : Int) by omega]
        exact hnx
  refine ok_enter rfl (Nat.le_of_ble_eq_true rfl) ?_
  refine v_aload_n dX8_keyOfWay_0 rfl ?_
  refine v_iload_n dX8_keyOfWay_1 rfl ?_
  refine v_callV1 dX8_keyOfWay_2 mv_RX8_72 rfl rfl (Nat.le_of_ble_eq_true rfl) ?_
  refine ok_to ?_
  rw [vAt_nI (by omega) (by omega), hfw]
  show V _ _ _ _ (_ :: _) _ _
  refine v_istore_n dX8_keyOfWay_5 (Nat.le_of_ble_eq_true rfl) rfl ?_
  refine v_iload_n dX8_keyOfWay_6 rfl ?_
  refine v_if_lt dX8_keyOfWay_7 (fun zc7 => ?_) (fun zc7 => ?_)
  · try simp (disch := omega) only [iz_lit, iz_nI, iz_neg, iz_add, iz_sub, iz_mul, iz_lt, iz_le, iz_eq] at zc7
    refine v_iconst dX8_keyOfWay_15 ?_
    refine v_ireturn dX8_keyOfWay_16 rfl (rfl) ?_
    rw [if_neg (by omega)] at hQ
    exact hQ
  · try simp (disch := omega) only [iz_lit, iz_nI, iz_neg, iz_add, iz_sub, iz_mul, iz_lt, iz_le, iz_eq] at zc7
    refine v_iload_n dX8_keyOfWay_10 rfl ?_
    refine v_iload_n dX8_keyOfWay_11 rfl ?_
    refine v_icmp_lt dX8_keyOfWay_12 (fun zc12 => ?_) (fun zc12 => ?_)
    · try simp (disch := omega) only [iz_lit, iz_nI, iz_neg, iz_add, iz_sub, iz_mul, iz_lt, iz_le, iz_eq] at zc12
      refine v_aload_n dX8_keyOfWay_17 rfl ?_
      refine v_getR (q := 28) dX8_keyOfWay_18 fl_RX8_15 rfl rfl ?_
      refine v_iload_n dX8_keyOfWay_21 rfl ?_
      refine v_callS2 dX8_keyOfWay_22 ms_RX8_68 (Nat.le_of_ble_eq_true rfl) ?_
      have hfe : ∃ e, bfF v (bfAll R s) = some e := by
        cases hb : bfF v (bfAll R s) with
        | some e => exact ⟨e, rfl⟩
        | none => rw [few_none hb] at zc12; exfalso; omega
      obtain ⟨e, he⟩ := hfe
      have hq6 : bfF v q = some e := by rw [q5 v hvm]; exact he
      have hmet := ((q4 v (by omega)).1 e hq6).2
      have hbi := bfI_pre q1 hq6
      have hbg := bfI_get hq6
      have hbl := (List.getElem?_eq_some_iff.mp hbg).1
      have hfe2 := few_some he
      have hbe : (bfAll R s).getD (bfI v q) en0 = e := by rw [pre_getD q1 hbl, List.getD, hbg]; rfl
      rw [if_pos ⟨by omega, by omega⟩, hbi] at hQ
      refine ok_at rfl (by decide) ?_
      rw [vAt_nI (by omega) (by omega), hmet]
      show V _ _ _ _ (_ :: _) _ _
      refine v_istore dX8_keyOfWay_25 (Nat.le_of_ble_eq_true rfl) rfl ?_
      refine v_iload_n dX8_keyOfWay_27 rfl ?_
      refine v_iconst dX8_keyOfWay_28 ?_
      refine v_isub dX8_keyOfWay_29 ?_
      refine v_istore dX8_keyOfWay_30 (Nat.le_of_ble_eq_true rfl) rfl ?_
      have hl := loop (fewS R s v - 1 - xi).toNat (bfI v q) hbl (by omega) (by rw [hbe]; omega) (by simpa using hQ)
      rw [show xi + ((fewS R s v - 1 - xi).toNat : Int) = fewS R s v - 1 by omega] at hl
      rw [show (1 : Int32) = iz 1 from rfl, iz_sub]
      exact hl
    · try simp (disch := omega) only [iz_lit, iz_nI, iz_neg, iz_add, iz_sub, iz_mul, iz_lt, iz_le, iz_eq] at zc12
      refine v_iconst dX8_keyOfWay_15 ?_
      refine v_ireturn dX8_keyOfWay_16 rfl (rfl) ?_
      rw [if_neg (by omega)] at hQ
      exact hQ
end FW
