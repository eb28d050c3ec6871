/-! ===== the game ===== -/
def gK (R : Rk) (g : Nat) (f : St → Int) (s : St) (k : Nat) : Int := if (nx R s k).1 = g then 1 else - f (nx R s k)
def gB (R : Rk) (g : Nat) (f : St → Int) (s : St) : Nat → Int
  | 0 => -1
  | k + 1 => max (gB R g f s k) (gK R g f s k)
def gW (R : Rk) (g : Nat) : Nat → St → Int
  | 0, _ => 0
  | n + 1, s => if R.2.2.2.2.length = 0 then 0 else gB R g (gW R g n) s R.2.2.2.2.length
def gI (R : Rk) (g : Nat) (f : St → Int) (s : St) : Nat → Int
  | 0 => -1
  | k + 1 => if k = 0 ∨ gB R g f s k < gK R g f s k then k else gI R g f s k
section GM
variable {D : Nat} {σ τ : Wd} {Q : Option Value → Wd → Prop} {R : Rk} {s : St} {r g n : Nat} {f : St → Int}
theorem gK_rng (hf : ∀ t, -1 ≤ f t ∧ f t ≤ 1) (k : Nat) : -1 ≤ gK R g f s k ∧ gK R g f s k ≤ 1 := by
  unfold gK
  have := hf (nx R s k)
  split <;> omega
theorem gB_rng (hf : ∀ t, -1 ≤ f t ∧ f t ≤ 1) : ∀ k, -1 ≤ gB R g f s k ∧ gB R g f s k ≤ 1
  | 0 => by show -1 ≤ (-1 : Int) ∧ (-1 : Int) ≤ 1; omega
  | k + 1 => by
    have h1 := gB_rng hf k
    have h2 := gK_rng (R := R) (g := g) (s := s) hf k
    show -1 ≤ max (gB R g f s k) (gK R g f s k) ∧ max (gB R g f s k) (gK R g f s k) ≤ 1
    omega
theorem gW_rng : ∀ n s, -1 ≤ gW R g n s ∧ gW R g n s ≤ 1
  | 0, _ => by show -1 ≤ (0 : Int) ∧ (0 : Int) ≤ 1; omega
  | n + 1, s => by
    show -1 ≤ (if _ then (0 : Int) else _) ∧ (if _ then (0 : Int) else _) ≤ 1
    split
    · omega
    · exact gB_rng (fun t => gW_rng n t) _
theorem gB_top (hf : ∀ t, -1 ≤ f t ∧ f t ≤ 1) {k : Nat} (h : gB R g f s k = 1) : ∀ j, gB R g f s (k + j) = 1
  | 0 => h
  | j + 1 => by
    have h1 := gB_top hf h j
    have h2 := gK_rng (R := R) (g := g) (s := s) hf (k + j)
    show max (gB R g f s (k + j)) (gK R g f s (k + j)) = 1
    omega
theorem gB_ge : ∀ k j, j < k → gK R g f s j ≤ gB R g f s k
  | k + 1, j, h => by
    show gK R g f s j ≤ max (gB R g f s k) (gK R g f s k)
    rcases Nat.lt_or_ge j k with h1 | h1
    · have := gB_ge k j h1; omega
    · rw [show j = k by omega]; omega
theorem gI_spec : ∀ k, 0 < k → (∀ t, -1 ≤ f t ∧ f t ≤ 1) → ∃ i : Nat, gI R g f s k = i ∧ i < k ∧ gK R g f s i = gB R g f s k ∧ ∀ j, j < i → gK R g f s j < gB R g f s k
  | k + 1, _, hf => by
    have hk := gK_rng (R := R) (g := g) (s := s) hf k
    by_cases hc : k = 0 ∨ gB R g f s k < gK R g f s k
    · refine ⟨k, ?_, by omega, ?_, fun j hj => ?_⟩
      · show (if _ then _ else _) = _
        rw [if_pos hc]
      · show gK R g f s k = max (gB R g f s k) (gK R g f s k)
        rcases hc with rfl | hc
        · show gK R g f s 0 = max (-1) (gK R g f s 0); omega
        · omega
      · show gK R g f s j < max (gB R g f s k) (gK R g f s k)
        have := gB_ge (R := R) (g := g) (f := f) (s := s) k j hj
        omega
    · obtain ⟨i, h1, h2, h3, h4⟩ := gI_spec k (by omega) hf
      have e : gB R g f s (k + 1) = gB R g f s k := by
        show max (gB R g f s k) (gK R g f s k) = _
        omega
      refine ⟨i, ?_, by omega, by rw [e]; exact h3, fun j hj => by rw [e]; exact h4 j hj⟩
      show (if _ then _ else _) = _
      rw [if_neg hc]
      exact h1
/-- the class: worth, and worth of a key, by strokes -/
theorem ok_wok (hr : vIsR r) (hR : RepR σ r R) (hv : vR 8 R) (hm : 0 < R.2.2.2.1) (hg : g < R.2.2.2.1) (n : Nat) (hn : n < 10)
    (hW : ∀ (e : Nat) (t : St) (Q : Option Value → Wd → Prop), 2 * n + 5 ≤ e → vS R.2.2.2.1 t → Q (some (.int (iz (gW R g n t)))) σ → Ok e mX3_worth [.ref r, .int (nI (ps t)), .int (nI g), .int (nI n)] σ Q)
    (e : Nat) (he : 2 * n + 6 ≤ e) (k : Nat) (hk : k < R.2.2.2.2.length) (hs : vS R.2.2.2.1 s) (hQ : Q (some (.int (iz (gK R g (gW R g n) s k)))) σ) : Ok e mX3_worthOfKey [.ref r, .int (nI (ps s)), .int (nI g), .int (nI (n + 1)), .int (nI k)] σ Q := by
  obtain ⟨D, rfl⟩ : ∃ D, e = D + 4 := ⟨e - 4, by omega⟩
  have hm2 := hv.m100
  have hnk := hv.n9
  have hky : R.2.2.2.2[k]? = some (R.2.2.2.2.getD k (0, 0, 0, 0)) := by rw [List.getD, List.getElem?_eq_getElem hk]; rfl
  have ht := nx_v hv hk hs
  have hw := gW_rng (R := R) (g := g) n (nx R s k)
  have htl := ht.1
  unfold gK at hQ
  refine ok_enter rfl (Nat.le_of_ble_eq_true rfl) ?_
  refine v_aload_n dX3_worthOfKey_0 rfl ?_
  refine v_iload_n dX3_worthOfKey_1 rfl ?_
  refine v_iload dX3_worthOfKey_2 rfl ?_
  refine v_callV2 dX3_worthOfKey_4 mv_RX3_33 hr.lay rfl (Nat.le_of_ble_eq_true rfl) ?_
  refine ok_afterStroke hr hR (show 8 ≤ 9 by decide) hv hs hky ?_
  rw [show rk_str R s (R.2.2.2.2.getD k (0, 0, 0, 0)) = nx R s k from rfl]
  show V _ _ _ _ (_ :: _) _ _
  refine v_istore dX3_worthOfKey_7 (Nat.le_of_ble_eq_true rfl) rfl ?_
  refine v_iload dX3_worthOfKey_9 rfl ?_
  refine v_callS1 dX3_worthOfKey_11 ms_RX3_36 (Nat.le_of_ble_eq_true rfl) ?_
  refine ok_shownIn ?_
  rw [ps_sh hm2 ht]
  show V _ _ _ _ (_ :: _) _ _
  refine v_iload_n dX3_worthOfKey_14 rfl ?_
  refine v_icmp_ne dX3_worthOfKey_15 (fun zc15 => ?_) (fun zc15 => ?_)
  · rw [nI_eq (by omega) (by omega)] at zc15
    refine v_aload_n dX3_worthOfKey_22 rfl ?_
    refine v_iload dX3_worthOfKey_23 rfl ?_
    refine v_iload_n dX3_worthOfKey_25 rfl ?_
    refine v_iload_n dX3_worthOfKey_26 rfl ?_
    refine v_iconst dX3_worthOfKey_27 ?_
    refine v_isub dX3_worthOfKey_28 ?_
    rw [nI_pred]
    refine v_callS4 dX3_worthOfKey_29 ms_RX3_40 (Nat.le_of_ble_eq_true rfl) ?_
    refine hW _ _ _ (by omega) ht ?_
    show V _ _ _ _ (_ :: _) _ _
    refine v_ineg dX3_worthOfKey_32 ?_
    refine v_ireturn dX3_worthOfKey_33 rfl (rfl) ?_
    first | (rw [if_pos zc15] at hQ; exact hQ) | (rw [if_neg zc15] at hQ; rw [iz_neg]; exact hQ)
  · rw [nI_eq (by omega) (by omega)] at zc15
    refine v_iconst dX3_worthOfKey_18 ?_
    refine v_goto dX3_worthOfKey_19 ?_
    refine v_ireturn dX3_worthOfKey_33 rfl (rfl) ?_
    first | (rw [if_pos zc15] at hQ; exact hQ) | (rw [if_neg zc15] at hQ; rw [iz_neg]; exact hQ)
theorem ok_worth (hr : vIsR r) (hR : RepR σ r R) (hv : vR 8 R) (hm : 0 < R.2.2.2.1) (hg : g < R.2.2.2.1) : ∀ (n : Nat), n < 10 → ∀ (e : Nat) (s : St) (Q : Option Value → Wd → Prop), 2 * n + 5 ≤ e → vS R.2.2.2.1 s → Q (some (.int (iz (gW R g n s)))) σ → Ok e mX3_worth [.ref r, .int (nI (ps s)), .int (nI g), .int (nI n)] σ Q := by
  have hm2 := hv.m100
  have hnk := hv.n9
  have h4 := hR.2.2.2.2.1
  intro n
  induction n with
  | zero =>
    intro hn e s Q he hs hQ
    refine ok_enter rfl (Nat.le_of_ble_eq_true rfl) ?_
    refine v_iload_n dX3_worth_0 rfl ?_
    refine v_if_le dX3_worth_1 (fun zc1 => ?_) (fun zc1 => ?_)
    · refine v_iconst dX3_worth_11 ?_
      refine v_ireturn dX3_worth_12 rfl (rfl) ?_
      exact hQ
    · exact absurd (show nI 0 ≤ (0 : Int32) by decide) zc1
  | succ n ihn =>
    intro hn e s Q he hs hQ
    obtain ⟨D, rfl⟩ : ∃ D, e = D + 1 := ⟨e - 1, by omega⟩
    have hf := fun t => gW_rng (R := R) (g := g) n t
    by_cases h0 : R.2.2.2.2.length = 0
    · have e0 : gW R g (n + 1) s = 0 := by show (if _ then _ else _) = _; rw [if_pos h0]
      rw [e0] at hQ
      refine ok_enter rfl (Nat.le_of_ble_eq_true rfl) ?_
      refine v_iload_n dX3_worth_0 rfl ?_
      refine v_if_le dX3_worth_1 (fun zc1 => ?_) (fun zc1 => ?_)
      · exact absurd zc1 (nI_nle (by omega) (by omega))
      · refine v_aload_n dX3_worth_4 rfl ?_
        refine v_getI dX3_worth_5 fl_RX3_18 hr.lay ?_
        rw [h4, h0]
        refine v_if_ne dX3_worth_8 (fun zc8 => ?_) (fun zc8 => ?_)
        · exact absurd rfl zc8
        · refine v_iconst dX3_worth_11 ?_
          refine v_ireturn dX3_worth_12 rfl (rfl) ?_
          exact hQ
    · have e0 : gW R g (n + 1) s = gB R g (gW R g n) s R.2.2.2.2.length := by show (if _ then _ else _) = _; rw [if_neg h0]
      rw [e0] at hQ
      have loop : ∀ j k, k + j = R.2.2.2.2.length → V mX3_worth (D + 1) 19 [some (.ref r), some (.int (nI (ps s))), some (.int (nI g)), some (.int (nI (n + 1))), some (.int (iz (gB R g (gW R g n) s k))), some (.int (nI k))] [] σ Q := by
        intro j
        induction j with
        | zero =>
          intro k hk
          have hk2 : k = R.2.2.2.2.length := by omega
          subst hk2
          refine v_iload dX3_worth_19 rfl ?_
          refine v_aload_n dX3_worth_21 rfl ?_
          refine v_getI dX3_worth_22 fl_RX3_18 hr.lay ?_
          rw [h4]
          refine v_icmp_ge dX3_worth_25 (fun zc25 => ?_) (fun zc25 => ?_)
          · refine v_iload dX3_worth_56 rfl ?_
            refine v_ireturn dX3_worth_58 rfl (rfl) ?_
            exact hQ
          · exact absurd (nI_le (Nat.le_refl _) (by omega)) zc25
        | succ j ih =>
          intro k hk
          have b1 := gB_rng (R := R) (g := g) (s := s) hf k
          have b2 := gK_rng (R := R) (g := g) (s := s) hf k
          refine v_iload dX3_worth_19 rfl ?_
          refine v_aload_n dX3_worth_21 rfl ?_
          refine v_getI dX3_worth_22 fl_RX3_18 hr.lay ?_
          rw [h4]
          refine v_icmp_ge dX3_worth_25 (fun zc25 => ?_) (fun zc25 => ?_)
          · exact absurd zc25 (nI_ge (by omega) (by omega))
          · refine v_iload dX3_worth_28 rfl ?_
            refine v_iconst dX3_worth_30 ?_
            refine v_icmp_ge dX3_worth_31 (fun zc31 => ?_) (fun zc31 => ?_)
            · rw [show (1 : Int32) = iz 1 from rfl, iz_le (by omega) (by omega) (by omega) (by omega)] at zc31
              refine v_iload dX3_worth_56 rfl ?_
              refine v_ireturn dX3_worth_58 rfl (rfl) ?_
              rw [← hk, gB_top hf (show gB R g (gW R g n) s k = 1 by omega)] at hQ
              rw [show gB R g (gW R g n) s k = 1 by omega]
              exact hQ
            · rw [show (1 : Int32) = iz 1 from rfl, iz_le (by omega) (by omega) (by omega) (by omega)] at zc31
              refine v_iload dX3_worth_34 rfl ?_
              refine v_aload_n dX3_worth_36 rfl ?_
              refine v_iload_n dX3_worth_37 rfl ?_
              refine v_iload_n dX3_worth_38 rfl ?_
              refine v_iload_n dX3_worth_39 rfl ?_
              refine v_iload dX3_worth_40 rfl ?_
              refine v_callS5 dX3_worth_42 ms_RX3_23 (Nat.le_of_ble_eq_true rfl) ?_
              refine ok_wok hr hR hv hm hg n (by omega) (fun e t Q h1 h2 h3 => ihn (by omega) e t Q h1 h2 h3) _ (by omega) k (by omega) hs ?_
              show V _ _ _ _ (_ :: _) _ _
              refine v_callS2 dX3_worth_45 ms_RX3_27 (Nat.le_of_ble_eq_true rfl) ?_
              refine ok_max (by omega) (by omega) (by omega) (by omega) ?_
              show V _ _ _ _ (_ :: _) _ _
              refine v_istore dX3_worth_48 (Nat.le_of_ble_eq_true rfl) rfl ?_
              refine v_iinc dX3_worth_50 rfl (Nat.le_of_ble_eq_true rfl) rfl ?_
              refine v_goto dX3_worth_53 ?_
              rw [nI_1]
              exact ih (k + 1) (by omega)
      refine ok_enter rfl (Nat.le_of_ble_eq_true rfl) ?_
      refine v_iload_n dX3_worth_0 rfl ?_
      refine v_if_le dX3_worth_1 (fun zc1 => ?_) (fun zc1 => ?_)
      · exact absurd zc1 (nI_nle (by omega) (by omega))
      · refine v_aload_n dX3_worth_4 rfl ?_
        refine v_getI dX3_worth_5 fl_RX3_18 hr.lay ?_
        rw [h4]
        refine v_if_ne dX3_worth_8 (fun zc8 => ?_) (fun zc8 => ?_)
        · refine v_iconst dX3_worth_13 ?_
          refine v_istore dX3_worth_14 (Nat.le_of_ble_eq_true rfl) rfl ?_
          refine v_iconst dX3_worth_16 ?_
          refine v_istore dX3_worth_17 (Nat.le_of_ble_eq_true rfl) rfl ?_
          exact loop R.2.2.2.2.length 0 (by omega)
        · exact absurd zc8 (nI_ne0 (by omega) (by omega))
theorem ok_play {n : Nat} (hr : vIsR r) (hR : RepR σ r R) (hv : vR 8 R) (hm : 0 < R.2.2.2.1) (hg : g < R.2.2.2.1) (hn : n ≤ 6) (hs : vS R.2.2.2.1 s)
    (hQ : Q none (setI (setI σ 43 0 (iz (gW R g n s))) 43 1 (iz (if n = 0 then -1 else gI R g (gW R g (n - 1)) s R.2.2.2.2.length)))) : Ok (D + 20) mX3_play [.ref 43, .ref r, .int (nI (ps s)), .int (nI g), .int (nI n)] σ Q := by
  have hnk := hv.n9
  have hr12 : r + 4 < 13 ∧ 3 ≤ r := by rcases hr with rfl | rfl <;> omega
  have h4 := hR.2.2.2.2.1
  have sw : ∀ (a b c d : Int32), setI (setI (setI (setI σ 43 0 a) 43 1 b) 43 1 c) 43 0 d = setI (setI σ 43 0 d) 43 1 c := by
    intro a b c d
    refine Prod.ext (funext fun x => funext fun y => ?_) rfl
    simp only [setI_get]
    by_cases h1 : x = 43 ∧ y = 0
    · rw [if_pos h1, if_neg (by omega), if_pos h1]
    · rw [if_neg h1]
      by_cases h2 : x = 43 ∧ y = 1
      · rw [if_pos h2, if_pos h2]
      · rw [if_neg h2, if_neg h2, if_neg h1, if_neg h2, if_neg h1]
  rcases Nat.eq_zero_or_pos n with h0 | h0
  · subst h0
    refine ok_enter rfl (Nat.le_of_ble_eq_true rfl) ?_
    refine v_aload_n dX3_play_0 rfl ?_
    refine v_iconst dX3_play_1 ?_
    refine v_putI dX3_play_2 fp_RX3_9 rfl ?_
    refine v_aload_n dX3_play_5 rfl ?_
    refine v_iconst dX3_play_6 ?_
    refine v_putI dX3_play_7 fp_RX3_15 rfl ?_
    refine v_iload dX3_play_10 rfl ?_
    refine v_if_gt dX3_play_12 (fun zc12 => ?_) (fun zc12 => ?_)
    · exact absurd zc12 (by decide)
    · refine v_return dX3_play_15 rfl ?_
      exact hQ
  · obtain ⟨n, rfl⟩ : ∃ k, n = k + 1 := ⟨n - 1, by omega⟩
    rw [if_neg (by omega), show n + 1 - 1 = n from rfl] at hQ
    have hf := fun t => gW_rng (R := R) (g := g) n t
    have loop : ∀ j k, k + j = R.2.2.2.2.length → ∀ x6, V mX3_play (D + 20) 19 [some (.ref 43), some (.ref r), some (.int (nI (ps s))), some (.int (nI g)), some (.int (nI (n + 1))), some (.int (nI k)), x6] [] (setI (setI σ 43 0 (iz (if k = 0 then 0 else gB R g (gW R g n) s k))) 43 1 (iz (gI R g (gW R g n) s k))) Q := by
      intro j
      induction j with
      | zero =>
        intro k hk x6
        have hk2 : k = R.2.2.2.2.length := by omega
        have e0 : (if k = 0 then 0 else gB R g (gW R g n) s k) = gW R g (n + 1) s := by
          show _ = (if _ then _ else _)
          by_cases h : k = 0
          · rw [if_pos h, if_pos (by omega)]
          · rw [if_neg h, if_neg (by omega), hk2]
        rw [e0, hk2]
        refine v_iload dX3_play_19 rfl ?_
        refine v_aload_n dX3_play_21 rfl ?_
        refine v_getI dX3_play_22 fl_RX3_18 hr.lay ?_
        rw [setI_ne (by omega), setI_ne (by omega), h4]
        refine v_icmp_ge dX3_play_25 (fun zc25 => ?_) (fun zc25 => ?_)
        · refine v_return dX3_play_75 rfl ?_
          exact hQ
        · exact absurd (nI_le (Nat.le_refl _) (by omega)) zc25
      | succ j ih =>
        intro k hk x6
        have b1 := gB_rng (R := R) (g := g) (s := s) hf k
        have b2 := gK_rng (R := R) (g := g) (s := s) hf k
        have hI : k = 0 ∧ gI R g (gW R g n) s k = -1 ∨ 0 < k ∧ 0 ≤ gI R g (gW R g n) s k ∧ gI R g (gW R g n) s k < 9 := by
          rcases Nat.eq_zero_or_pos k with h | h
          · subst h; exact Or.inl ⟨rfl, rfl⟩
          · obtain ⟨i, h1, h2, -⟩ := gI_spec (R := R) (g := g) (s := s) k h hf
            exact Or.inr ⟨h, by omega, by omega⟩
        have st1 : (if k + 1 = 0 then 0 else gB R g (gW R g n) s (k + 1)) = max (gB R g (gW R g n) s k) (gK R g (gW R g n) s k) := by rw [if_neg (by omega)]; rfl
        have st2 : gI R g (gW R g n) s (k + 1) = if k = 0 ∨ gB R g (gW R g n) s k < gK R g (gW R g n) s k then (k : Int) else gI R g (gW R g n) s k := rfl
        have hz : k = 0 → gB R g (gW R g n) s k = -1 := fun h => by subst h; rfl
        have hnx := ih (k + 1) (by omega)
        rw [st1, st2] at hnx
        have hR2 : ∀ a b, RepR (setI (setI σ 43 0 a) 43 1 b) r R := fun a b => hR.kept (fun x y h1 h2 => by rw [setI_ne (by omega), setI_ne (by omega)])
        refine v_iload dX3_play_19 rfl ?_
        refine v_aload_n dX3_play_21 rfl ?_
        refine v_getI dX3_play_22 fl_RX3_18 hr.lay ?_
        rw [setI_ne (by omega), setI_ne (by omega), h4]
        refine v_icmp_ge dX3_play_25 (fun zc25 => ?_) (fun zc25 => ?_)
        · exact absurd zc25 (nI_ge (by omega) (by omega))
        · refine v_aload_n dX3_play_28 rfl ?_
          refine v_iload_n dX3_play_29 rfl ?_
          refine v_iload_n dX3_play_30 rfl ?_
          refine v_iload dX3_play_31 rfl ?_
          refine v_iload dX3_play_33 rfl ?_
          refine v_callS5 dX3_play_35 ms_RX3_23 (Nat.le_of_ble_eq_true rfl) ?_
          refine ok_wok hr (hR2 _ _) hv hm hg n (by omega) (fun e t Q h1 h2 h3 => ok_worth hr (hR2 _ _) hv hm hg n (by omega) e t Q h1 h2 h3) _ (by omega) k (by omega) hs ?_
          show V _ _ _ _ (_ :: _) _ _
          refine v_istore dX3_play_38 (Nat.le_of_ble_eq_true rfl) rfl ?_
          refine v_aload_n dX3_play_40 rfl ?_
          refine v_getI dX3_play_41 fl_RX3_15 rfl ?_
          rw [setI_same]
          refine v_iconst dX3_play_44 ?_
          refine v_icmp_eq dX3_play_45 (fun zc45 => ?_) (fun zc45 => ?_)
          · rw [show (-1 : Int32) = iz (-1) from rfl, iz_eq (by omega) (by omega) (by omega) (by omega)] at zc45
            refine v_aload_n dX3_play_57 rfl ?_
            refine v_iload dX3_play_58 rfl ?_
            refine v_putI dX3_play_60 fp_RX3_15 rfl ?_
            refine v_aload_n dX3_play_63 rfl ?_
            refine v_iload dX3_play_64 rfl ?_
            refine v_putI dX3_play_66 fp_RX3_9 rfl ?_
            refine v_iinc dX3_play_69 rfl (Nat.le_of_ble_eq_true rfl) rfl ?_
            refine v_goto dX3_play_72 ?_
            rw [nI_1]
            first | (rw [if_pos (by omega), show max (gB R g (gW R g n) s k) (gK R g (gW R g n) s k) = gK R g (gW R g n) s k by omega] at hnx; rw [sw, iz_nI k]; exact hnx _) | (rw [if_neg (by omega), show max (gB R g (gW R g n) s k) (gK R g (gW R g n) s k) = gB R g (gW R g n) s k by omega] at hnx; rw [if_neg (by omega)]; exact hnx _)
          · rw [show (-1 : Int32) = iz (-1) from rfl, iz_eq (by omega) (by omega) (by omega) (by omega)] at zc45
            refine v_iload dX3_play_48 rfl ?_
            refine v_aload_n dX3_play_50 rfl ?_
            refine v_getI dX3_play_51 fl_RX3_9 rfl ?_
            rw [setI_ne (by omega), setI_same]
            refine v_icmp_le dX3_play_54 (fun zc54 => ?_) (fun zc54 => ?_)
            · rw [if_neg (by omega), iz_le (by omega) (by omega) (by omega) (by omega)] at zc54
              refine v_iinc dX3_play_69 rfl (Nat.le_of_ble_eq_true rfl) rfl ?_
              refine v_goto dX3_play_72 ?_
              rw [nI_1]
              first | (rw [if_pos (by omega), show max (gB R g (gW R g n) s k) (gK R g (gW R g n) s k) = gK R g (gW R g n) s k by omega] at hnx; rw [sw, iz_nI k]; exact hnx _) | (rw [if_neg (by omega), show max (gB R g (gW R g n) s k) (gK R g (gW R g n) s k) = gB R g (gW R g n) s k by omega] at hnx; rw [if_neg (by omega)]; exact hnx _)
            · rw [if_neg (by omega), iz_le (by omega) (by omega) (by omega) (by omega)] at zc54
              refine v_aload_n dX3_play_57 rfl ?_
              refine v_iload dX3_play_58 rfl ?_
              refine v_putI dX3_play_60 fp_RX3_15 rfl ?_
              refine v_aload_n dX3_play_63 rfl ?_
              refine v_iload dX3_play_64 rfl ?_
              refine v_putI dX3_play_66 fp_RX3_9 rfl ?_
              refine v_iinc dX3_play_69 rfl (Nat.le_of_ble_eq_true rfl) rfl ?_
              refine v_goto dX3_play_72 ?_
              rw [nI_1]
              first | (rw [if_pos (by omega), show max (gB R g (gW R g n) s k) (gK R g (gW R g n) s k) = gK R g (gW R g n) s k by omega] at hnx; rw [sw, iz_nI k]; exact hnx _) | (rw [if_neg (by omega), show max (gB R g (gW R g n) s k) (gK R g (gW R g n) s k) = gB R g (gW R g n) s k by omega] at hnx; rw [if_neg (by omega)]; exact hnx _)
    refine ok_enter rfl (Nat.le_of_ble_eq_true rfl) ?_
    refine v_aload_n dX3_play_0 rfl ?_
    refine v_iconst dX3_play_1 ?_
    refine v_putI dX3_play_2 fp_RX3_9 rfl ?_
    refine v_aload_n dX3_play_5 rfl ?_
    refine v_iconst dX3_play_6 ?_
    refine v_putI dX3_play_7 fp_RX3_15 rfl ?_
    refine v_iload dX3_play_10 rfl ?_
    refine v_if_gt dX3_play_12 (fun zc12 => ?_) (fun zc12 => ?_)
    · refine v_iconst dX3_play_16 ?_
      refine v_istore dX3_play_17 (Nat.le_of_ble_eq_true rfl) rfl ?_
      exact loop R.2.2.2.2.length 0 (by omega) _
    · exact absurd (show (0 : Int32) < nI (n + 1) from nI_lt (a := 0) (by omega) (by omega)) zc12
end GM
