/-! ===== the class: fewest, way, never, farthest, quick ===== -/
/-- the class's reckoner and state, at r -/
def CP (σ : Wd) (r : Nat) (R : Rk) (s : St) : Prop := vIsR r ∧ σ.2.2 0 1 = r ∧ RepR σ r R ∧ vR 8 R ∧ σ.1 13 0 = nI (ps s) ∧ vS R.2.2.2.1 s
section CF
variable {D : Nat} {σ τ : Wd} {Q : Option Value → Wd → Prop} {R : Rk} {s : St} {r n : Nat}
theorem CP.kept (h : CP σ r R s) (h1 : ∀ a b, a < 22 → τ.1 a b = σ.1 a b) (h2 : ∀ a, a < 22 → τ.2.2 a = σ.2.2 a) : CP τ r R s := by
  obtain ⟨a1, a2, a3, a4, a5, a6⟩ := h
  have hr12 : r + 4 < 13 ∧ 3 ≤ r := by rcases a1 with rfl | rfl <;> omega
  exact ⟨a1, by rw [h2 _ (by omega)]; exact a2, a3.kept (fun a b _ _ => h1 a b (by omega)), a4, by rw [h1 _ _ (by omega)]; exact a5, a6⟩
theorem CP.st (h : CP σ r R s) (hF : StFr σ τ) : CP τ r R s := h.kept (fun a b h => hF.1 a b (by omega)) (fun a _ => by rw [hF.2.1])
theorem R0 (hv : vR n R) (h : R.2.2.2.1 = 0) : R = (-1, 0, 0, 0, []) := by
  rcases hv with h1 | ⟨h1, h2, h3, h4, h5, h6, h7, h8, h9⟩
  · exact h1
  · omega
/-- 'learn', whatever the dial -/
theorem ok_learnA (hP : CP σ r R s) (hC : StC σ R s) (hQ : ∀ τ, StFr σ τ → StC τ R s → (0 < R.2.2.2.1 → ∀ v, v < R.2.2.2.1 → τ.1 27 v = iz (fewS R s v)) → Q none τ) : Ok (D + 5) mX8_learn [.ref 26, .ref r, .int (nI (ps s))] σ Q := by
  obtain ⟨hr, hrk, hR, hv, hp0, hs⟩ := hP
  rcases Nat.eq_zero_or_pos R.2.2.2.1 with h0 | h0
  · refine ok_learn0 (R := R) hr (by rw [hR.2.2.2.1, h0]; rfl) h0 (by rw [← h0]; exact hs) hC (fun τ f1 f2 => hQ τ f1 f2 (fun h => absurd h (by omega)))
  · exact ok_learn hr hR hv h0 hs hC (fun τ f1 f2 f3 _ => hQ τ f1 f2 (fun _ v hv2 => (f2.2.2 h0).1 f3 v hv2))
def OUT : Int32 := -1000000002
def NOTN : Int32 := -1000000003
theorem ok_cfewest {x : Int32} (hP : CP σ r R s) (hC : StC σ R s) (hQ : ∀ τ, StFr σ τ → StC τ R s → Q (some (.int (if 0 ≤ x.toInt ∧ x.toInt < R.2.2.2.1 then iz (fewS R s x.toInt.toNat) else OUT))) τ) : Ok (D + 6) mX11_fewest [.ref 0, .int x] σ Q := by
  obtain ⟨hr, hrk, hR, hv, hp0, hs⟩ := id hP
  have hm := hv.m100
  refine ok_enter rfl (Nat.le_of_ble_eq_true rfl) ?_
  refine v_aload_n dX11_fewest_0 rfl ?_
  refine v_iload_n dX11_fewest_1 rfl ?_
  refine v_callV1 dX11_fewest_2 mv_RX11_188 rfl rfl (Nat.le_of_ble_eq_true rfl) ?_
  refine ok_isOnDial hr hrk hR.2.2.2.1 hm ?_
  show V _ _ _ _ (_ :: _) _ _
  refine v_if_ne dX11_fewest_5 (fun zc5 => ?_) (fun zc5 => ?_)
  · have hx : 0 ≤ x.toInt ∧ x.toInt < R.2.2.2.1 := by
      by_cases h : 0 ≤ x.toInt ∧ x.toInt < (R.2.2.2.1 : Int)
      · exact h
      · rw [if_neg h] at zc5; exact absurd rfl zc5
    refine v_aload_n dX11_fewest_11 rfl ?_
    refine v_getR (q := 26) dX11_fewest_12 fl_RX11_58 rfl rfl ?_
    refine v_aload_n dX11_fewest_15 rfl ?_
    refine v_getM dX11_fewest_16 fl_RX11_19 rfl ?_
    rw [hrk]
    refine v_aload_n dX11_fewest_19 rfl ?_
    refine v_getR (q := 13) dX11_fewest_20 fl_RX11_29 rfl rfl ?_
    refine v_getI dX11_fewest_23 fl_RX11_114 rfl ?_
    rw [hp0]
    refine v_callV2 dX11_fewest_26 mv_RX11_191 rfl rfl (Nat.le_of_ble_eq_true rfl) ?_
    refine ok_learnA hP hC (fun τ f1 f2 f3 => ?_)
    show V _ _ _ _ _ _ _
    refine v_aload_n dX11_fewest_29 rfl ?_
    refine v_getR (q := 26) dX11_fewest_30 fl_RX11_58 rfl rfl ?_
    refine v_iload_n dX11_fewest_33 rfl ?_
    refine v_callV1 dX11_fewest_34 mv_RX11_194 rfl rfl (Nat.le_of_ble_eq_true rfl) ?_
    refine ok_to ?_
    have e : vAt τ 27 100 x = iz (fewS R s x.toInt.toNat) := by
      unfold vAt
      rw [if_pos ⟨by omega, by omega⟩]
      exact f3 (by omega) _ (by omega)
    rw [e]
    show V _ _ _ _ (_ :: _) _ _
    refine v_ireturn dX11_fewest_37 rfl (rfl) ?_
    have h9 := hQ τ f1 f2
    rw [if_pos hx] at h9
    exact h9
  · have hx : ¬ (0 ≤ x.toInt ∧ x.toInt < R.2.2.2.1) := fun h => by rw [if_pos h] at zc5; exact absurd zc5 (by decide)
    refine v_ldc dX11_fewest_8 cn_RX11_97 ?_
    refine v_ireturn dX11_fewest_10 rfl (rfl) ?_
    have h9 := hQ σ StFr.rf hC
    rw [if_neg hx] at h9
    exact h9
theorem ok_cway {x y : Int32} (hP : CP σ r R s) (hC : StC σ R s) (hQ : ∀ τ, StFr σ τ → StC τ R s → Q (some (.int (if 0 ≤ x.toInt ∧ x.toInt < R.2.2.2.1 then iz (wayS R s x.toInt.toNat y.toInt) else OUT))) τ) : Ok (D + 7) mX11_way [.ref 0, .int x, .int y] σ Q := by
  obtain ⟨hr, hrk, hR, hv, hp0, hs⟩ := id hP
  have hm := hv.m100
  refine ok_enter rfl (Nat.le_of_ble_eq_true rfl) ?_
  refine v_aload_n dX11_way_0 rfl ?_
  refine v_iload_n dX11_way_1 rfl ?_
  refine v_callV1 dX11_way_2 mv_RX11_188 rfl rfl (Nat.le_of_ble_eq_true rfl) ?_
  refine ok_isOnDial hr hrk hR.2.2.2.1 hm ?_
  show V _ _ _ _ (_ :: _) _ _
  refine v_if_ne dX11_way_5 (fun zc5 => ?_) (fun zc5 => ?_)
  · have hx : 0 ≤ x.toInt ∧ x.toInt < R.2.2.2.1 := by
      by_cases h : 0 ≤ x.toInt ∧ x.toInt < (R.2.2.2.1 : Int)
      · exact h
      · rw [if_neg h] at zc5; exact absurd rfl zc5
    have hxe : x = nI x.toInt.toNat := by rw [iz_nI]; conv => lhs; rw [iz_of x]
                                          congr 1; omega
    refine v_aload_n dX11_way_11 rfl ?_
    refine v_getR (q := 26) dX11_way_12 fl_RX11_58 rfl rfl ?_
    refine v_aload_n dX11_way_15 rfl ?_
    refine v_getM dX11_way_16 fl_RX11_19 rfl ?_
    rw [hrk]
    refine v_aload_n dX11_way_19 rfl ?_
    refine v_getR (q := 13) dX11_way_20 fl_RX11_29 rfl rfl ?_
    refine v_getI dX11_way_23 fl_RX11_114 rfl ?_
    rw [hp0]
    refine v_callV2 dX11_way_26 mv_RX11_197 rfl rfl (Nat.le_of_ble_eq_true rfl) ?_
    refine ok_learnWays hr hR hv (by omega) hs hC (fun τ f1 f2 f3 => ?_)
    show V _ _ _ _ _ _ _
    refine v_aload_n dX11_way_29 rfl ?_
    refine v_getR (q := 26) dX11_way_30 fl_RX11_58 rfl rfl ?_
    refine v_iload_n dX11_way_33 rfl ?_
    refine v_iload_n dX11_way_34 rfl ?_
    refine v_callV2 dX11_way_35 mv_RX11_200 rfl rfl (Nat.le_of_ble_eq_true rfl) ?_
    rw [hxe]
    refine ok_keyOfWay hv (by omega) hs f2 f3 (by omega) ?_
    show V _ _ _ _ (_ :: _) _ _
    refine v_ireturn dX11_way_38 rfl (rfl) ?_
    have h9 := hQ τ f1 f2
    rw [if_pos hx] at h9
    exact h9
  · have hx : ¬ (0 ≤ x.toInt ∧ x.toInt < R.2.2.2.1) := fun h => by rw [if_pos h] at zc5; exact absurd zc5 (by decide)
    refine v_ldc dX11_way_8 cn_RX11_97 ?_
    refine v_ireturn dX11_way_10 rfl (rfl) ?_
    have h9 := hQ σ StFr.rf hC
    rw [if_neg hx] at h9
    exact h9
theorem ok_cnever {x : Int32} (hP : CP σ r R s) (hC : StC σ R s) (hQ : ∀ τ, StFr σ τ → StC τ R s → Q (some (.int (iz (nevG (fewS R s) x.toInt R.2.2.2.1 0 0)))) τ) : Ok (D + 6) mX11_never [.ref 0, .int x] σ Q := by
  obtain ⟨hr, hrk, hR, hv, hp0, hs⟩ := id hP
  have hm := hv.m100
  obtain ⟨x1, x2⟩ := iz_rng x
  have hxe := iz_of x
  generalize hxi : x.toInt = xi at *
  subst hxe
  have loop : ∀ τ, StFr σ τ → StC τ R s → (0 < R.2.2.2.1 → ∀ v, v < R.2.2.2.1 → τ.1 27 v = iz (fewS R s v)) → ∀ j v (c : Nat), v + j = R.2.2.2.1 → c ≤ v → nevG (fewS R s) xi R.2.2.2.1 0 0 = nevG (fewS R s) xi j v c → V mX11_never (D + 6) 22 [some (.ref 0), some (.int (iz xi)), some (.int (nI c)), some (.int (nI v))] [] τ Q := by
    intro τ f1 f2 f3 j
    have hP2 := hP.st f1
    obtain ⟨-, hrk2, hR2, -⟩ := hP2
    have h32 := hR2.2.2.2.1
    have hq := hQ τ f1 f2
    induction j with
    | zero =>
      intro v c hvc hc he
      rw [he] at hq
      unfold nevG at hq
      refine v_iload_n dX11_never_22 rfl ?_
      refine v_aload_n dX11_never_23 rfl ?_
      refine v_getM dX11_never_24 fl_RX11_19 rfl ?_
      rw [hrk2]
      refine v_getI dX11_never_27 fl_RX11_131 hr.lay ?_
      rw [h32]
      refine v_icmp_ge dX11_never_30 (fun zc30 => ?_) (fun zc30 => ?_)
      · refine v_iload_n dX11_never_61 rfl ?_
        refine v_iconst dX11_never_62 ?_
        refine v_icmp_ne dX11_never_63 (fun zc63 => ?_) (fun zc63 => ?_)
        · rw [show (-1 : Int32) = iz (-1) from rfl, iz_eq (by omega) (by omega) (by omega) (by omega)] at zc63
          refine v_iconst dX11_never_70 ?_
          refine v_ireturn dX11_never_71 rfl (rfl) ?_
          first | (rw [if_pos zc63] at hq; rw [iz_nI]; exact hq) | (rw [if_neg zc63] at hq; exact hq)
        · rw [show (-1 : Int32) = iz (-1) from rfl, iz_eq (by omega) (by omega) (by omega) (by omega)] at zc63
          refine v_iload_n dX11_never_66 rfl ?_
          refine v_goto dX11_never_67 ?_
          refine v_ireturn dX11_never_71 rfl (rfl) ?_
          first | (rw [if_pos zc63] at hq; rw [iz_nI]; exact hq) | (rw [if_neg zc63] at hq; exact hq)
      · exact absurd (nI_le (by omega) (by omega)) zc30
    | succ j ih =>
      intro v c hvc hc he
      have hfv := f3 (by omega) v (by omega)
      obtain ⟨r1, r2⟩ := few_rng (v := v) hv (by omega) hm hs
      have hst : nevG (fewS R s) xi (j + 1) v c = if fewS R s v = -1 then (if (c : Int) = xi then (v : Int) else nevG (fewS R s) xi j (v + 1) ((c : Int) + 1)) else nevG (fewS R s) xi j (v + 1) c := rfl
      refine v_iload_n dX11_never_22 rfl ?_
      refine v_aload_n dX11_never_23 rfl ?_
      refine v_getM dX11_never_24 fl_RX11_19 rfl ?_
      rw [hrk2]
      refine v_getI dX11_never_27 fl_RX11_131 hr.lay ?_
      rw [h32]
      refine v_icmp_ge dX11_never_30 (fun zc30 => ?_) (fun zc30 => ?_)
      · exact absurd zc30 (nI_ge (by omega) (by omega))
      · refine v_aload_n dX11_never_33 rfl ?_
        refine v_getR (q := 26) dX11_never_34 fl_RX11_58 rfl rfl ?_
        refine v_iload_n dX11_never_37 rfl ?_
        refine v_callV1 dX11_never_38 mv_RX11_194 rfl rfl (Nat.le_of_ble_eq_true rfl) ?_
        refine ok_to ?_
        rw [vAt_nI (by omega) (by omega), hfv]
        show V _ _ _ _ (_ :: _) _ _
        refine v_iconst dX11_never_41 ?_
        refine v_icmp_ne dX11_never_42 (fun zc42 => ?_) (fun zc42 => ?_)
        · rw [show (-1 : Int32) = iz (-1) from rfl, iz_eq (by omega) (by omega) (by omega) (by omega)] at zc42
          refine v_iinc dX11_never_55 rfl (Nat.le_of_ble_eq_true rfl) rfl ?_
          refine v_goto dX11_never_58 ?_
          first | (rw [nI_1, nI_1]; refine ih (v + 1) (c + 1) (by omega) (by omega) ?_; rw [he, hst, if_pos zc42, if_neg zc47]; rfl) | (rw [nI_1]; refine ih (v + 1) c (by omega) (by omega) ?_; rw [he, hst, if_neg zc42])
        · rw [show (-1 : Int32) = iz (-1) from rfl, iz_eq (by omega) (by omega) (by omega) (by omega)] at zc42
          refine v_iload_n dX11_never_45 rfl ?_
          refine v_iload_n dX11_never_46 rfl ?_
          refine v_icmp_ne dX11_never_47 (fun zc47 => ?_) (fun zc47 => ?_)
          · rw [iz_nI, iz_eq (by omega) (by omega) (by omega) (by omega)] at zc47
            refine v_iinc dX11_never_52 rfl (Nat.le_of_ble_eq_true rfl) rfl ?_
            refine v_iinc dX11_never_55 rfl (Nat.le_of_ble_eq_true rfl) rfl ?_
            refine v_goto dX11_never_58 ?_
            first | (rw [nI_1, nI_1]; refine ih (v + 1) (c + 1) (by omega) (by omega) ?_; rw [he, hst, if_pos zc42, if_neg zc47]; rfl) | (rw [nI_1]; refine ih (v + 1) c (by omega) (by omega) ?_; rw [he, hst, if_neg zc42])
          · rw [iz_nI, iz_eq (by omega) (by omega) (by omega) (by omega)] at zc47
            refine v_iload_n dX11_never_50 rfl ?_
            refine v_ireturn dX11_never_51 rfl (rfl) ?_
            rw [he, hst, if_pos zc42, if_pos zc47] at hq
            rw [iz_nI]
            exact hq
  refine ok_enter rfl (Nat.le_of_ble_eq_true rfl) ?_
  refine v_aload_n dX11_never_0 rfl ?_
  refine v_getR (q := 26) dX11_never_1 fl_RX11_58 rfl rfl ?_
  refine v_aload_n dX11_never_4 rfl ?_
  refine v_getM dX11_never_5 fl_RX11_19 rfl ?_
  rw [hrk]
  refine v_aload_n dX11_never_8 rfl ?_
  refine v_getR (q := 13) dX11_never_9 fl_RX11_29 rfl rfl ?_
  refine v_getI dX11_never_12 fl_RX11_114 rfl ?_
  rw [hp0]
  refine v_callV2 dX11_never_15 mv_RX11_191 rfl rfl (Nat.le_of_ble_eq_true rfl) ?_
  refine ok_learnA hP hC (fun τ f1 f2 f3 => ?_)
  show V _ _ _ _ _ _ _
  refine v_iconst dX11_never_18 ?_
  refine v_istore_n dX11_never_19 (Nat.le_of_ble_eq_true rfl) rfl ?_
  refine v_iconst dX11_never_20 ?_
  refine v_istore_n dX11_never_21 (Nat.le_of_ble_eq_true rfl) rfl ?_
  exact loop τ f1 f2 f3 R.2.2.2.1 0 0 (by omega) (by omega) rfl
theorem ok_cfarthest {x : Int32} (hP : CP σ r R s) (hC : StC σ R s) (hQ : ∀ τ, StFr σ τ → StC τ R s → Q (some (.int (if x.toInt < 0 ∨ 1 < x.toInt then OUT else if R.2.2.2.1 = 0 then NOTN else if x.toInt = 0 then nI (fthG (fewS R s) (R.2.2.2.1 - 1) 1 0) else iz (fewS R s (fthG (fewS R s) (R.2.2.2.1 - 1) 1 0))))) τ) : Ok (D + 6) mX11_farthest [.ref 0, .int x] σ Q := by
  obtain ⟨hr, hrk, hR, hv, hp0, hs⟩ := id hP
  have hm := hv.m100
  have h3 := hR.2.2.2.1
  obtain ⟨x1, x2⟩ := iz_rng x
  have hxe := iz_of x
  generalize hxi : x.toInt = xi at *
  subst hxe
  have loop : 0 < R.2.2.2.1 → ¬ (xi < 0 ∨ 1 < xi) → ∀ τ, StFr σ τ → StC τ R s → (∀ v, v < R.2.2.2.1 → τ.1 27 v = iz (fewS R s v)) → ∀ j v b, v + j = R.2.2.2.1 → b < R.2.2.2.1 → fthG (fewS R s) (R.2.2.2.1 - 1) 1 0 = fthG (fewS R s) j v b → V mX11_farthest (D + 6) 47 [some (.ref 0), some (.int (iz xi)), some (.int (nI b)), some (.int (nI v))] [] τ Q := by
    intro h0 hxx τ f1 f2 f3 j
    obtain ⟨-, hrk2, hR2, -⟩ := hP.st f1
    have h32 := hR2.2.2.2.1
    have hq := hQ τ f1 f2
    rw [if_neg hxx, if_neg (by omega)] at hq
    induction j with
    | zero =>
      intro v b hvc hb he
      have he2 : fthG (fewS R s) (R.2.2.2.1 - 1) 1 0 = b := he
      rw [he2] at hq
      refine v_iload_n dX11_farthest_47 rfl ?_
      refine v_aload_n dX11_farthest_48 rfl ?_
      refine v_getM dX11_farthest_49 fl_RX11_19 rfl ?_
      rw [hrk2]
      refine v_getI dX11_farthest_52 fl_RX11_131 hr.lay ?_
      rw [h32]
      refine v_icmp_ge dX11_farthest_55 (fun zc55 => ?_) (fun zc55 => ?_)
      · refine v_iload_n dX11_farthest_85 rfl ?_
        refine v_if_ne dX11_farthest_86 (fun zc86 => ?_) (fun zc86 => ?_)
        · rw [show (0 : Int32) = iz 0 from rfl, iz_eq (by omega) (by omega) (by omega) (by omega)] at zc86
          refine v_aload_n dX11_farthest_93 rfl ?_
          refine v_getR (q := 26) dX11_farthest_94 fl_RX11_58 rfl rfl ?_
          refine v_iload_n dX11_farthest_97 rfl ?_
          refine v_callV1 dX11_farthest_98 mv_RX11_194 rfl rfl (Nat.le_of_ble_eq_true rfl) ?_
          refine ok_to ?_
          rw [vAt_nI (by omega) (by omega), f3 b hb]
          show V _ _ _ _ (_ :: _) _ _
          refine v_ireturn dX11_farthest_101 rfl (rfl) ?_
          first | (rw [if_pos zc86] at hq; exact hq) | (rw [if_neg zc86] at hq; exact hq)
        · rw [show (0 : Int32) = iz 0 from rfl, iz_eq (by omega) (by omega) (by omega) (by omega)] at zc86
          refine v_iload_n dX11_farthest_89 rfl ?_
          refine v_goto dX11_farthest_90 ?_
          refine v_ireturn dX11_farthest_101 rfl (rfl) ?_
          first | (rw [if_pos zc86] at hq; exact hq) | (rw [if_neg zc86] at hq; exact hq)
      · exact absurd (nI_le (by omega) (by omega)) zc55
    | succ j ih =>
      intro v b hvc hb he
      obtain ⟨r1, r2⟩ := few_rng (v := v) hv (by omega) hm hs
      obtain ⟨r3, r4⟩ := few_rng (v := b) hv (by omega) hm hs
      have he2 : fthG (fewS R s) (R.2.2.2.1 - 1) 1 0 = fthG (fewS R s) j (v + 1) (if fewS R s b < fewS R s v then v else b) := he
      refine v_iload_n dX11_farthest_47 rfl ?_
      refine v_aload_n dX11_farthest_48 rfl ?_
      refine v_getM dX11_farthest_49 fl_RX11_19 rfl ?_
      rw [hrk2]
      refine v_getI dX11_farthest_52 fl_RX11_131 hr.lay ?_
      rw [h32]
      refine v_icmp_ge dX11_farthest_55 (fun zc55 => ?_) (fun zc55 => ?_)
      · exact absurd zc55 (nI_ge (by omega) (by omega))
      · refine v_aload_n dX11_farthest_58 rfl ?_
        refine v_getR (q := 26) dX11_farthest_59 fl_RX11_58 rfl rfl ?_
        refine v_iload_n dX11_farthest_62 rfl ?_
        refine v_callV1 dX11_farthest_63 mv_RX11_194 rfl rfl (Nat.le_of_ble_eq_true rfl) ?_
        refine ok_to ?_
        rw [vAt_nI (by omega) (by omega), f3 v (by omega)]
        show V _ _ _ _ (_ :: _) _ _
        refine v_aload_n dX11_farthest_66 rfl ?_
        refine v_getR (q := 26) dX11_farthest_67 fl_RX11_58 rfl rfl ?_
        refine v_iload_n dX11_farthest_70 rfl ?_
        refine v_callV1 dX11_farthest_71 mv_RX11_194 rfl rfl (Nat.le_of_ble_eq_true rfl) ?_
        refine ok_to ?_
        rw [vAt_nI (by omega) (by omega), f3 b hb]
        show V _ _ _ _ (_ :: _) _ _
        refine v_icmp_le dX11_farthest_74 (fun zc74 => ?_) (fun zc74 => ?_)
        · rw [iz_le (by omega) (by omega) (by omega) (by omega)] at zc74
          refine v_iinc dX11_farthest_79 rfl (Nat.le_of_ble_eq_true rfl) rfl ?_
          refine v_goto dX11_farthest_82 ?_
          first | (rw [nI_1]; refine ih (v + 1) b (by omega) hb ?_; rw [he2, if_neg (by omega)]; done) | (rw [nI_1]; refine ih (v + 1) v (by omega) (by omega) ?_; rw [he2, if_pos (by omega)]; done)
        · rw [iz_le (by omega) (by omega) (by omega) (by omega)] at zc74
          refine v_iload_n dX11_farthest_77 rfl ?_
          refine v_istore_n dX11_farthest_78 (Nat.le_of_ble_eq_true rfl) rfl ?_
          refine v_iinc dX11_farthest_79 rfl (Nat.le_of_ble_eq_true rfl) rfl ?_
          refine v_goto dX11_farthest_82 ?_
          first | (rw [nI_1]; refine ih (v + 1) b (by omega) hb ?_; rw [he2, if_neg (by omega)]; done) | (rw [nI_1]; refine ih (v + 1) v (by omega) (by omega) ?_; rw [he2, if_pos (by omega)]; done)
  refine ok_enter rfl (Nat.le_of_ble_eq_true rfl) ?_
  refine v_iload_n dX11_farthest_0 rfl ?_
  refine v_if_lt dX11_farthest_1 (fun zc1 => ?_) (fun zc1 => ?_)
  · try simp (disch := omega) only [iz_lit, iz_nI, iz_neg, iz_add, iz_sub, iz_mul, iz_lt, iz_le, iz_eq] at zc1
    refine v_ldc dX11_farthest_9 cn_RX11_97 ?_
    refine v_ireturn dX11_farthest_11 rfl (rfl) ?_
    have hq := hQ σ StFr.rf hC
    rw [if_pos (by omega)] at hq
    exact hq
  · try simp (disch := omega) only [iz_lit, iz_nI, iz_neg, iz_add, iz_sub, iz_mul, iz_lt, iz_le, iz_eq] at zc1
    refine v_iload_n dX11_farthest_4 rfl ?_
    refine v_iconst dX11_farthest_5 ?_
    refine v_icmp_le dX11_farthest_6 (fun zc6 => ?_) (fun zc6 => ?_)
    · try simp (disch := omega) only [iz_lit, iz_nI, iz_neg, iz_add, iz_sub, iz_mul, iz_lt, iz_le, iz_eq] at zc6
      refine v_aload_n dX11_farthest_12 rfl ?_
      refine v_getM dX11_farthest_13 fl_RX11_19 rfl ?_
      rw [hrk]
      refine v_getI dX11_farthest_16 fl_RX11_131 hr.lay ?_
      rw [h3]
      refine v_if_ne dX11_farthest_19 (fun zc19 => ?_) (fun zc19 => ?_)
      · try simp (disch := omega) only [iz_lit, iz_nI, iz_neg, iz_add, iz_sub, iz_mul, iz_lt, iz_le, iz_eq] at zc19
        refine v_aload_n dX11_farthest_25 rfl ?_
        refine v_getR (q := 26) dX11_farthest_26 fl_RX11_58 rfl rfl ?_
        refine v_aload_n dX11_farthest_29 rfl ?_
        refine v_getM dX11_farthest_30 fl_RX11_19 rfl ?_
        rw [hrk]
        refine v_aload_n dX11_farthest_33 rfl ?_
        refine v_getR (q := 13) dX11_farthest_34 fl_RX11_29 rfl rfl ?_
        refine v_getI dX11_farthest_37 fl_RX11_114 rfl ?_
        rw [hp0]
        refine v_callV2 dX11_farthest_40 mv_RX11_191 rfl rfl (Nat.le_of_ble_eq_true rfl) ?_
        refine ok_learnA hP hC (fun τ f1 f2 f3 => ?_)
        show V _ _ _ _ _ _ _
        refine v_iconst dX11_farthest_43 ?_
        refine v_istore_n dX11_farthest_44 (Nat.le_of_ble_eq_true rfl) rfl ?_
        refine v_iconst dX11_farthest_45 ?_
        refine v_istore_n dX11_farthest_46 (Nat.le_of_ble_eq_true rfl) rfl ?_
        exact loop (by omega) (by omega) τ f1 f2 (f3 (by omega)) (R.2.2.2.1 - 1) 1 0 (by omega) (by omega) rfl
      · try simp (disch := omega) only [iz_lit, iz_nI, iz_neg, iz_add, iz_sub, iz_mul, iz_lt, iz_le, iz_eq] at zc19
        refine v_ldc dX11_farthest_22 cn_RX11_208 ?_
        refine v_ireturn dX11_farthest_24 rfl (rfl) ?_
        have hq := hQ σ StFr.rf hC
        rw [if_neg (by omega), if_pos (by omega)] at hq
        exact hq
    · try simp (disch := omega) only [iz_lit, iz_nI, iz_neg, iz_add, iz_sub, iz_mul, iz_lt, iz_le, iz_eq] at zc6
      refine v_ldc dX11_farthest_9 cn_RX11_97 ?_
      refine v_ireturn dX11_farthest_11 rfl (rfl) ?_
      have hq := hQ σ StFr.rf hC
      rw [if_pos (by omega)] at hq
      exact hq
end CF
