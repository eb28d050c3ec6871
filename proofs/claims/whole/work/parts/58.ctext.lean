/-! ===== the class's text: words, numbers, ends ===== -/
def RepX (σ : Wd) (T : List Nat) : Prop := σ.1 1 1 = nI T.length ∧ ∀ (j c : Nat), T[j]? = some c → σ.1 2 j = nI c
def NumP (σ τ : Wd) (T : List Nat) (lo hi i : Nat) (x : Int32) : Prop := (x = 0 ∧ ∃ f, Pn T lo hi i = .inl f ∧ Fr (fun a b => a = 1 ∧ 2 ≤ b ∧ b ≤ 7) σ τ ∧ τ.1 1 2 = nI f.1 ∧ τ.1 1 3 = nI f.2) ∨ (x = 1 ∧ ∃ v j, Pn T lo hi i = .inr (v, j) ∧ Fr (fun a b => a = 1 ∧ (b = 4 ∨ b = 6 ∨ b = 7)) σ τ ∧ τ.1 1 4 = nI j ∧ τ.1 1 6 = nI (skp T i) ∧ τ.1 1 7 = nI v)
def EndP (σ τ : Wd) (T : List Nat) (i : Nat) (x : Int32) : Prop := (x = 0 ∧ ∃ f, Pe T i = .inl f ∧ Fr (fun a b => a = 1 ∧ 2 ≤ b ∧ b ≤ 4) σ τ ∧ τ.1 1 2 = nI f.1 ∧ τ.1 1 3 = nI f.2) ∨ (x = 1 ∧ ∃ j, Pe T i = .inr j ∧ Fr (fun a b => a = 1 ∧ b = 4) σ τ ∧ τ.1 1 4 = nI j)
section CX1
variable {D : Nat} {σ τ : Wd} {Q : Option Value → Wd → Prop} {T : List Nat} {i p n lo hi' k : Nat}
theorem RepX.kept (h : RepX σ T) (hF : ∀ a b, ¬ (a = 1 ∧ 2 ≤ b) → τ.1 a b = σ.1 a b) : RepX τ T := ⟨by rw [hF _ _ (by omega)]; exact h.1, fun j c hj => by rw [hF _ _ (by omega)]; exact h.2 j c hj⟩
theorem RepX.at (h : RepX σ T) (hi : i < T.length) : σ.1 2 i = nI T[i] := h.2 i _ (List.getElem?_eq_getElem hi)
theorem vT.at (hT : vT T) (hi : i < T.length) : T[i] < 256 := hT.2 _ (List.getElem_mem hi)
theorem ok_skip (hX : RepX σ T) (hT : vT T) (h4 : σ.1 1 4 = nI i) (hi : i ≤ T.length) (hQ : ∀ τ, Fr (fun a b => a = 1 ∧ b = 4) σ τ → τ.1 1 4 = nI (skp T i) → Q none τ) : Ok (D + 1) mX9_skipBlanks [.ref 1] σ Q := by
  have hl := hT.1
  have loop : ∀ j c τ, c + j = T.length → Fr (fun a b => a = 1 ∧ b = 4) σ τ → τ.1 1 4 = nI c → spn isBl T c = skp T i → V mX9_skipBlanks (D + 1) 0 [some (.ref 1)] [] τ Q := by
    intro j
    induction j with
    | zero =>
      intro c τ hc hF hn hs
      have hX2 : RepX τ T := hX.kept (fun a b h => hF.1 a b (by omega))
      have h9 := hQ τ hF (by rw [hn, ← hs, spn_end (by omega)])
      refine v_aload_n dX9_skipBlanks_0 rfl ?_
      refine v_getI dX9_skipBlanks_1 fl_RX9_25 rfl ?_
      rw [hn]
      refine v_aload_n dX9_skipBlanks_4 rfl ?_
      refine v_getI dX9_skipBlanks_5 fl_RX9_15 rfl ?_
      rw [hX2.1]
      refine v_icmp_ge dX9_skipBlanks_8 (fun zc8 => ?_) (fun zc8 => ?_)
      · refine v_return dX9_skipBlanks_40 rfl ?_
        exact h9
      · exact absurd (nI_le (by omega) (by omega)) zc8
    | succ j ih =>
      intro c τ hc hF hn hs
      have hcl : c < T.length := by omega
      have hX2 : RepX τ T := hX.kept (fun a b h => hF.1 a b (by omega))
      have hb := hX2.at hcl
      have hb2 := hT.at hcl
      by_cases he : T[c] = 32
      · have hnx := ih (c + 1) (setI τ 1 4 (nI (c + 1))) (by omega) (hF.set ⟨rfl, rfl⟩) setI_same (by rw [← hs]; exact (spn_step hcl (decide_eq_true he)).symm)
        refine v_aload_n dX9_skipBlanks_0 rfl ?_
        refine v_getI dX9_skipBlanks_1 fl_RX9_25 rfl ?_
        rw [hn]
        refine v_aload_n dX9_skipBlanks_4 rfl ?_
        refine v_getI dX9_skipBlanks_5 fl_RX9_15 rfl ?_
        rw [hX2.1]
        refine v_icmp_ge dX9_skipBlanks_8 (fun zc8 => ?_) (fun zc8 => ?_)
        · exact absurd zc8 (nI_ge (by omega) (by omega))
        · refine v_aload_n dX9_skipBlanks_11 rfl ?_
          refine v_getR (q := 2) dX9_skipBlanks_12 fl_RX9_9 rfl rfl ?_
          refine v_aload_n dX9_skipBlanks_15 rfl ?_
          refine v_getI dX9_skipBlanks_16 fl_RX9_25 rfl ?_
          rw [hn]
          refine v_callS2 dX9_skipBlanks_19 ms_RX9_96 (Nat.le_of_ble_eq_true rfl) ?_
          refine ok_at rfl (by decide) ?_
          rw [vAt_nI (by omega) (by omega), hb]
          show V _ _ _ _ (_ :: _) _ _
          refine v_bipush dX9_skipBlanks_22 ?_
          refine v_icmp_ne dX9_skipBlanks_24 (fun zc24 => ?_) (fun zc24 => ?_)
          · exact absurd (show nI T[c] = 32 by rw [he]; rfl) zc24
          · refine v_aload_n dX9_skipBlanks_27 rfl ?_
            refine v_dup dX9_skipBlanks_28 rfl ?_
            refine v_getI dX9_skipBlanks_29 fl_RX9_25 rfl ?_
            rw [hn]
            refine v_iconst dX9_skipBlanks_32 ?_
            refine v_iadd dX9_skipBlanks_33 ?_
            rw [nI_1]
            refine v_putI dX9_skipBlanks_34 fp_RX9_25 rfl ?_
            refine v_goto dX9_skipBlanks_37 ?_
            exact hnx
      · have h9 := hQ τ hF (by rw [hn, ← hs, spn_stop hcl (decide_eq_false he)])
        refine v_aload_n dX9_skipBlanks_0 rfl ?_
        refine v_getI dX9_skipBlanks_1 fl_RX9_25 rfl ?_
        rw [hn]
        refine v_aload_n dX9_skipBlanks_4 rfl ?_
        refine v_getI dX9_skipBlanks_5 fl_RX9_15 rfl ?_
        rw [hX2.1]
        refine v_icmp_ge dX9_skipBlanks_8 (fun zc8 => ?_) (fun zc8 => ?_)
        · exact absurd zc8 (nI_ge (by omega) (by omega))
        · refine v_aload_n dX9_skipBlanks_11 rfl ?_
          refine v_getR (q := 2) dX9_skipBlanks_12 fl_RX9_9 rfl rfl ?_
          refine v_aload_n dX9_skipBlanks_15 rfl ?_
          refine v_getI dX9_skipBlanks_16 fl_RX9_25 rfl ?_
          rw [hn]
          refine v_callS2 dX9_skipBlanks_19 ms_RX9_96 (Nat.le_of_ble_eq_true rfl) ?_
          refine ok_at rfl (by decide) ?_
          rw [vAt_nI (by omega) (by omega), hb]
          show V _ _ _ _ (_ :: _) _ _
          refine v_bipush dX9_skipBlanks_22 ?_
          refine v_icmp_ne dX9_skipBlanks_24 (fun zc24 => ?_) (fun zc24 => ?_)
          · refine v_return dX9_skipBlanks_40 rfl ?_
            exact h9
          · exact absurd ((nI_eq (b := 32) (by omega) (by omega)).mp zc24) he
  refine ok_enter rfl (Nat.le_of_ble_eq_true rfl) ?_
  exact loop (T.length - i) i σ (by omega) Fr.rf h4 rfl
theorem ok_between (hX : RepX σ T) (hT : vT T) (hi : i ≤ T.length) (hlo : lo < 1000) (hhi : hi' < 1000) (hQ : Q (some (.int (if i < T.length ∧ lo ≤ T.getD i 0 ∧ T.getD i 0 ≤ hi' then 1 else 0))) σ) : Ok (D + 1) mX9_isBetween [.ref 1, .int (nI i), .int (nI lo), .int (nI hi')] σ Q := by
  have hl := hT.1
  rcases Nat.lt_or_ge i T.length with hil | hil
  · have hb := hX.at hil
    have hb2 := hT.at hil
    have hg : T.getD i 0 = T[i] := by rw [List.getD, List.getElem?_eq_getElem hil]; rfl
    rw [hg] at hQ
    refine ok_enter rfl (Nat.le_of_ble_eq_true rfl) ?_
    refine v_iload_n dX9_isBetween_0 rfl ?_
    refine v_aload_n dX9_isBetween_1 rfl ?_
    refine v_getI dX9_isBetween_2 fl_RX9_15 rfl ?_
    rw [hX.1]
    refine v_icmp_ge dX9_isBetween_5 (fun zc5 => ?_) (fun zc5 => ?_)
    · exact absurd zc5 (nI_ge (by omega) (by omega))
    · refine v_aload_n dX9_isBetween_8 rfl ?_
      refine v_getR (q := 2) dX9_isBetween_9 fl_RX9_9 rfl rfl ?_
      refine v_iload_n dX9_isBetween_12 rfl ?_
      refine v_callS2 dX9_isBetween_13 ms_RX9_96 (Nat.le_of_ble_eq_true rfl) ?_
      refine ok_at rfl (by decide) ?_
      rw [vAt_nI (by omega) (by omega), hb]
      show V _ _ _ _ (_ :: _) _ _
      refine v_iload_n dX9_isBetween_16 rfl ?_
      refine v_icmp_lt dX9_isBetween_17 (fun zc17 => ?_) (fun zc17 => ?_)
      · rw [nI_ltI (by omega) (by omega)] at zc17
        refine v_iconst dX9_isBetween_36 ?_
        refine v_ireturn dX9_isBetween_37 rfl (rfl) ?_
        first | (rw [if_pos (by omega)] at hQ; exact hQ) | (rw [if_neg (by omega)] at hQ; exact hQ)
      · rw [nI_ltI (by omega) (by omega)] at zc17
        refine v_aload_n dX9_isBetween_20 rfl ?_
        refine v_getR (q := 2) dX9_isBetween_21 fl_RX9_9 rfl rfl ?_
        refine v_iload_n dX9_isBetween_24 rfl ?_
        refine v_callS2 dX9_isBetween_25 ms_RX9_96 (Nat.le_of_ble_eq_true rfl) ?_
        refine ok_at rfl (by decide) ?_
        rw [vAt_nI (by omega) (by omega), hb]
        show V _ _ _ _ (_ :: _) _ _
        refine v_iload_n dX9_isBetween_28 rfl ?_
        refine v_icmp_gt dX9_isBetween_29 (fun zc29 => ?_) (fun zc29 => ?_)
        · rw [nI_ltI (by omega) (by omega)] at zc29
          refine v_iconst dX9_isBetween_36 ?_
          refine v_ireturn dX9_isBetween_37 rfl (rfl) ?_
          first | (rw [if_pos (by omega)] at hQ; exact hQ) | (rw [if_neg (by omega)] at hQ; exact hQ)
        · rw [nI_ltI (by omega) (by omega)] at zc29
          refine v_iconst dX9_isBetween_32 ?_
          refine v_goto dX9_isBetween_33 ?_
          refine v_ireturn dX9_isBetween_37 rfl (rfl) ?_
          first | (rw [if_pos (by omega)] at hQ; exact hQ) | (rw [if_neg (by omega)] at hQ; exact hQ)
  · refine ok_enter rfl (Nat.le_of_ble_eq_true rfl) ?_
    rw [if_neg (by omega)] at hQ
    refine v_iload_n dX9_isBetween_0 rfl ?_
    refine v_aload_n dX9_isBetween_1 rfl ?_
    refine v_getI dX9_isBetween_2 fl_RX9_15 rfl ?_
    rw [hX.1]
    refine v_icmp_ge dX9_isBetween_5 (fun zc5 => ?_) (fun zc5 => ?_)
    · refine v_iconst dX9_isBetween_36 ?_
      refine v_ireturn dX9_isBetween_37 rfl (rfl) ?_
      exact hQ
    · exact absurd (nI_le (by omega) (by omega)) zc5
theorem ok_takeWord (hX : RepX σ T) (hT : vT T) (h4 : σ.1 1 4 = nI i) (hi : i ≤ T.length) (hQ : ∀ τ, Fr (fun a b => a = 1 ∧ (b = 4 ∨ b = 5)) σ τ → τ.1 1 5 = nI (skp T i) → τ.1 1 4 = nI (skp T i + (wrd T (skp T i)).length) → Q none τ) : Ok (D + 2) mX9_takeWord [.ref 1] σ Q := by
  have hl := hT.1
  have hp : skp T i ≤ T.length := spn_le hi
  have loop : ∀ j c τ, c + j = T.length → Fr (fun a b => a = 1 ∧ (b = 4 ∨ b = 5)) σ τ → τ.1 1 5 = nI (skp T i) → τ.1 1 4 = nI c → spn isLe T c = skp T i + (wrd T (skp T i)).length → V mX9_takeWord (D + 2) 12 [some (.ref 1)] [] τ Q := by
    intro j
    induction j with
    | zero =>
      intro c τ hc hF h5 hn hs
      have hX2 : RepX τ T := hX.kept (fun a b h => hF.1 a b (by omega))
      have h9 := hQ τ hF h5 (by rw [hn, ← hs, spn_end (by omega)])
      refine v_aload_n dX9_takeWord_12 rfl ?_
      refine v_getI dX9_takeWord_13 fl_RX9_25 rfl ?_
      rw [hn]
      refine v_aload_n dX9_takeWord_16 rfl ?_
      refine v_getI dX9_takeWord_17 fl_RX9_15 rfl ?_
      rw [hX2.1]
      refine v_icmp_ge dX9_takeWord_20 (fun zc20 => ?_) (fun zc20 => ?_)
      · refine v_return dX9_takeWord_51 rfl ?_
        exact h9
      · exact absurd (nI_le (by omega) (by omega)) zc20
    | succ j ih =>
      intro c τ hc hF h5 hn hs
      have hcl : c < T.length := by omega
      have hX2 : RepX τ T := hX.kept (fun a b h => hF.1 a b (by omega))
      have hg : T.getD c 0 = T[c] := by rw [List.getD, List.getElem?_eq_getElem hcl]; rfl
      by_cases he : 97 ≤ T[c] ∧ T[c] ≤ 122
      · have hnx := ih (c + 1) (setI τ 1 4 (nI (c + 1))) (by omega) (hF.set ⟨rfl, Or.inl rfl⟩) (by rw [setI_ne (by omega)]; exact h5) setI_same (by rw [← hs]; exact (spn_step hcl (decide_eq_true he)).symm)
        refine v_aload_n dX9_takeWord_12 rfl ?_
        refine v_getI dX9_takeWord_13 fl_RX9_25 rfl ?_
        rw [hn]
        refine v_aload_n dX9_takeWord_16 rfl ?_
        refine v_getI dX9_takeWord_17 fl_RX9_15 rfl ?_
        rw [hX2.1]
        refine v_icmp_ge dX9_takeWord_20 (fun zc20 => ?_) (fun zc20 => ?_)
        · exact absurd zc20 (nI_ge (by omega) (by omega))
        · refine v_aload_n dX9_takeWord_23 rfl ?_
          refine v_aload_n dX9_takeWord_24 rfl ?_
          refine v_getI dX9_takeWord_25 fl_RX9_25 rfl ?_
          rw [hn]
          refine v_bipush dX9_takeWord_28 ?_
          refine v_bipush dX9_takeWord_30 ?_
          refine v_callV3 dX9_takeWord_32 mv_RX9_100 rfl rfl (Nat.le_of_ble_eq_true rfl) ?_
          refine ok_between (lo := 97) (hi' := 122) hX2 hT (by omega) (by omega) (by omega) ?_
          rw [hg, if_pos ⟨hcl, he⟩]
          show V _ _ _ _ (_ :: _) _ _
          refine v_if_eq dX9_takeWord_35 (fun zc35 => ?_) (fun zc35 => ?_)
          · exact absurd zc35 (by decide)
          · refine v_aload_n dX9_takeWord_38 rfl ?_
            refine v_dup dX9_takeWord_39 rfl ?_
            refine v_getI dX9_takeWord_40 fl_RX9_25 rfl ?_
            rw [hn]
            refine v_iconst dX9_takeWord_43 ?_
            refine v_iadd dX9_takeWord_44 ?_
            rw [nI_1]
            refine v_putI dX9_takeWord_45 fp_RX9_25 rfl ?_
            refine v_goto dX9_takeWord_48 ?_
            exact hnx
      · have h9 := hQ τ hF h5 (by rw [hn, ← hs, spn_stop hcl (decide_eq_false he)])
        refine v_aload_n dX9_takeWord_12 rfl ?_
        refine v_getI dX9_takeWord_13 fl_RX9_25 rfl ?_
        rw [hn]
        refine v_aload_n dX9_takeWord_16 rfl ?_
        refine v_getI dX9_takeWord_17 fl_RX9_15 rfl ?_
        rw [hX2.1]
        refine v_icmp_ge dX9_takeWord_20 (fun zc20 => ?_) (fun zc20 => ?_)
        · exact absurd zc20 (nI_ge (by omega) (by omega))
        · refine v_aload_n dX9_takeWord_23 rfl ?_
          refine v_aload_n dX9_takeWord_24 rfl ?_
          refine v_getI dX9_takeWord_25 fl_RX9_25 rfl ?_
          rw [hn]
          refine v_bipush dX9_takeWord_28 ?_
          refine v_bipush dX9_takeWord_30 ?_
          refine v_callV3 dX9_takeWord_32 mv_RX9_100 rfl rfl (Nat.le_of_ble_eq_true rfl) ?_
          refine ok_between (lo := 97) (hi' := 122) hX2 hT (by omega) (by omega) (by omega) ?_
          rw [hg, if_neg (fun h => he h.2)]
          show V _ _ _ _ (_ :: _) _ _
          refine v_if_eq dX9_takeWord_35 (fun zc35 => ?_) (fun zc35 => ?_)
          · refine v_return dX9_takeWord_51 rfl ?_
            exact h9
          · exact absurd rfl zc35
  refine ok_enter rfl (Nat.le_of_ble_eq_true rfl) ?_
  refine v_aload_n dX9_takeWord_0 rfl ?_
  refine v_callV0 dX9_takeWord_1 mv_RX9_42 rfl rfl (Nat.le_of_ble_eq_true rfl) ?_
  refine ok_skip hX hT h4 hi (fun τ f1 f2 => ?_)
  show V _ _ _ _ _ _ _
  refine v_aload_n dX9_takeWord_4 rfl ?_
  refine v_aload_n dX9_takeWord_5 rfl ?_
  refine v_getI dX9_takeWord_6 fl_RX9_25 rfl ?_
  rw [f2]
  refine v_putI dX9_takeWord_9 fp_RX9_28 rfl ?_
  exact loop (T.length - skp T i) (skp T i) _ (by omega) ((f1.mn (fun a b h => ⟨h.1, Or.inl h.2⟩)).set ⟨rfl, Or.inr rfl⟩) setI_same (by rw [setI_ne (by omega)]; exact f2) rfl
theorem wrd_at (hk : k < (wrd T p).length) (hp : p + (wrd T p).length ≤ T.length) : (wrd T p)[k] = T[p + k]'(by omega) := by
  have h : ((T.drop p).take (wrd T p).length)[k]? = (wrd T p)[k]? := by rw [wrd_take]
  rw [List.getElem?_take_of_lt hk, List.getElem?_drop, List.getElem?_eq_getElem (show p + k < T.length by omega), List.getElem?_eq_getElem hk] at h
  exact (Option.some.inj h).symm
theorem wrd_len (hp : p ≤ T.length) : p + (wrd T p).length ≤ T.length := spn_le (p := isLe) hp
theorem take_all {l m : List Nat} (hl : l.length = m.length) (h : l.take l.length = m.take l.length) : l = m := by
  rw [List.take_length] at h
  rw [h, hl, List.take_length]
theorem ok_wordIs (hi : i < 11) (hX : RepX σ T) (hT : vT T) (h5 : σ.1 1 5 = nI p) (h4 : σ.1 1 4 = nI (p + (wrd T p).length)) (hp : p ≤ T.length) (hQ : Q (some (.int (if wrd T p = wd i then 1 else 0))) σ) : Ok (D + 4) mX9_wordIs [.ref 1, .ref (100 + i)] σ Q := by
  have hl := hT.1
  have hw := wrd_len hp
  obtain ⟨-, -, w6, w0⟩ := sl_len i hi
  have loop : ∀ j k, k + j = (wd i).length → (wrd T p).length = (wd i).length → (wrd T p).take k = (wd i).take k → V mX9_wordIs (D + 4) 20 [some (.ref 1), some (.ref (100 + i)), some (.int (nI k))] [] σ Q := by
    intro j
    induction j with
    | zero =>
      intro k hk hlen ht
      have he : wrd T p = wd i := take_all hlen (by rw [show (wrd T p).length = k by omega]; exact ht)
      rw [if_pos he] at hQ
      refine v_iload_n dX9_wordIs_20 rfl ?_
      refine v_aload_n dX9_wordIs_21 rfl ?_
      refine v_callVS0 dX9_wordIs_22 mv_RX9_104 hi rfl (Nat.le_of_ble_eq_true rfl) ?_
      refine ok_strLen hi ?_
      show V _ _ _ _ (_ :: _) _ _
      refine v_icmp_ge dX9_wordIs_25 (fun zc25 => ?_) (fun zc25 => ?_)
      · refine v_iconst dX9_wordIs_57 ?_
        refine v_ireturn dX9_wordIs_58 rfl (rfl) ?_
        exact hQ
      · exact absurd (nI_le (by omega) (by omega)) zc25
    | succ j ih =>
      intro k hk hlen ht
      have hk1 : k < (wrd T p).length := by omega
      have hk2 : k < (wd i).length := by omega
      have hb := hX.at (show p + k < T.length by omega)
      have hb2 := hT.at (show p + k < T.length by omega)
      have hwk := wrd_at hk1 hw
      have hwd : (wd i).getD k 0 = (wd i)[k] := by rw [List.getD, List.getElem?_eq_getElem hk2]; rfl
      have hc2 := (sl_ch i hi k (by omega)).2
      by_cases he : T[p + k]'(by omega) = (wd i).getD k 0
      · have hnx := ih (k + 1) (by omega) hlen (by rw [List.take_succ, List.take_succ, ht, List.getElem?_eq_getElem hk1, List.getElem?_eq_getElem hk2, hwk, he, hwd])
        refine v_iload_n dX9_wordIs_20 rfl ?_
        refine v_aload_n dX9_wordIs_21 rfl ?_
        refine v_callVS0 dX9_wordIs_22 mv_RX9_104 hi rfl (Nat.le_of_ble_eq_true rfl) ?_
        refine ok_strLen hi ?_
        show V _ _ _ _ (_ :: _) _ _
        refine v_icmp_ge dX9_wordIs_25 (fun zc25 => ?_) (fun zc25 => ?_)
        · exact absurd zc25 (nI_ge (by omega) (by omega))
        · refine v_aload_n dX9_wordIs_28 rfl ?_
          refine v_getR (q := 2) dX9_wordIs_29 fl_RX9_9 rfl rfl ?_
          refine v_aload_n dX9_wordIs_32 rfl ?_
          refine v_getI dX9_wordIs_33 fl_RX9_28 rfl ?_
          rw [h5]
          refine v_iload_n dX9_wordIs_36 rfl ?_
          refine v_iadd dX9_wordIs_37 ?_
          rw [nI_add]
          refine v_callS2 dX9_wordIs_38 ms_RX9_96 (Nat.le_of_ble_eq_true rfl) ?_
          refine ok_at rfl (by decide) ?_
          rw [vAt_nI (by omega) (by omega), hb]
          show V _ _ _ _ (_ :: _) _ _
          refine v_aload_n dX9_wordIs_41 rfl ?_
          refine v_iload_n dX9_wordIs_42 rfl ?_
          refine v_callVS1 dX9_wordIs_43 mv_RX9_109 hi rfl (Nat.le_of_ble_eq_true rfl) ?_
          refine ok_strAt hi hk2 ?_
          show V _ _ _ _ (_ :: _) _ _
          refine v_icmp_eq dX9_wordIs_46 (fun zc46 => ?_) (fun zc46 => ?_)
          · refine v_iinc dX9_wordIs_51 rfl (Nat.le_of_ble_eq_true rfl) rfl ?_
            refine v_goto dX9_wordIs_54 ?_
            rw [nI_1]
            exact hnx
          · exact absurd (show nI (T[p + k]'(by omega)) = nI ((wd i).getD k 0) by rw [he]) zc46
      · have hne : ¬ wrd T p = wd i := fun h => he (by
          rw [hwd, ← hwk]
          simp only [h])
        rw [if_neg hne] at hQ
        refine v_iload_n dX9_wordIs_20 rfl ?_
        refine v_aload_n dX9_wordIs_21 rfl ?_
        refine v_callVS0 dX9_wordIs_22 mv_RX9_104 hi rfl (Nat.le_of_ble_eq_true rfl) ?_
        refine ok_strLen hi ?_
        show V _ _ _ _ (_ :: _) _ _
        refine v_icmp_ge dX9_wordIs_25 (fun zc25 => ?_) (fun zc25 => ?_)
        · exact absurd zc25 (nI_ge (by omega) (by omega))
        · refine v_aload_n dX9_wordIs_28 rfl ?_
          refine v_getR (q := 2) dX9_wordIs_29 fl_RX9_9 rfl rfl ?_
          refine v_aload_n dX9_wordIs_32 rfl ?_
          refine v_getI dX9_wordIs_33 fl_RX9_28 rfl ?_
          rw [h5]
          refine v_iload_n dX9_wordIs_36 rfl ?_
          refine v_iadd dX9_wordIs_37 ?_
          rw [nI_add]
          refine v_callS2 dX9_wordIs_38 ms_RX9_96 (Nat.le_of_ble_eq_true rfl) ?_
          refine ok_at rfl (by decide) ?_
          rw [vAt_nI (by omega) (by omega), hb]
          show V _ _ _ _ (_ :: _) _ _
          refine v_aload_n dX9_wordIs_41 rfl ?_
          refine v_iload_n dX9_wordIs_42 rfl ?_
          refine v_callVS1 dX9_wordIs_43 mv_RX9_109 hi rfl (Nat.le_of_ble_eq_true rfl) ?_
          refine ok_strAt hi hk2 ?_
          show V _ _ _ _ (_ :: _) _ _
          refine v_icmp_eq dX9_wordIs_46 (fun zc46 => ?_) (fun zc46 => ?_)
          · exact absurd ((nI_eq (by omega) (by omega)).mp zc46) he
          · refine v_iconst dX9_wordIs_49 ?_
            refine v_ireturn dX9_wordIs_50 rfl (rfl) ?_
            exact hQ
  refine ok_enter rfl (Nat.le_of_ble_eq_true rfl) ?_
  refine v_aload_n dX9_wordIs_0 rfl ?_
  refine v_getI dX9_wordIs_1 fl_RX9_25 rfl ?_
  rw [h4]
  refine v_aload_n dX9_wordIs_4 rfl ?_
  refine v_getI dX9_wordIs_5 fl_RX9_28 rfl ?_
  rw [h5]
  refine v_isub dX9_wordIs_8 ?_
  rw [zI_sub (by omega), show p + (wrd T p).length - p = (wrd T p).length by omega]
  refine v_aload_n dX9_wordIs_9 rfl ?_
  refine v_callVS0 dX9_wordIs_10 mv_RX9_104 hi rfl (Nat.le_of_ble_eq_true rfl) ?_
  refine ok_strLen hi ?_
  show V _ _ _ _ (_ :: _) _ _
  refine v_icmp_eq dX9_wordIs_13 (fun zc13 => ?_) (fun zc13 => ?_)
  · rw [nI_eq (by omega) (by omega)] at zc13
    refine v_iconst dX9_wordIs_18 ?_
    refine v_istore_n dX9_wordIs_19 (Nat.le_of_ble_eq_true rfl) rfl ?_
    exact loop (wd i).length 0 (by omega) zc13 rfl
  · rw [nI_eq (by omega) (by omega)] at zc13
    refine v_iconst dX9_wordIs_16 ?_
    refine v_ireturn dX9_wordIs_17 rfl (rfl) ?_
    rw [if_neg (fun h => zc13 (by rw [h]))] at hQ
    exact hQ
theorem ok_kindOf (hX : RepX σ T) (hT : vT T) (h5 : σ.1 1 5 = nI p) (h4 : σ.1 1 4 = nI (p + (wrd T p).length)) (hp : p ≤ T.length) (hQ : Q (some (.int (iz (kdW (wrd T p))))) σ) : Ok (D + 5) mX9_kindOfWord [.ref 1] σ Q := by
  refine ok_enter rfl (Nat.le_of_ble_eq_true rfl) ?_
  unfold kdW at hQ
  refine v_aload_n dX9_kindOfWord_0 rfl ?_
  refine v_ldcS (i := 3) dX9_kindOfWord_1 rfl (by decide) rfl ?_
  refine v_callV1 dX9_kindOfWord_3 mv_RX9_57 rfl rfl (Nat.le_of_ble_eq_true rfl) ?_
  refine ok_wordIs (i := 3) (by decide) hX hT h5 h4 hp ?_
  show V _ _ _ _ (_ :: _) _ _
  refine v_if_eq dX9_kindOfWord_6 (fun zc6 => ?_) (fun zc6 => ?_)
  · rw [if_neg (if01 zc6)] at hQ
    refine v_aload_n dX9_kindOfWord_11 rfl ?_
    refine v_ldcS (i := 4) dX9_kindOfWord_12 rfl (by decide) rfl ?_
    refine v_callV1 dX9_kindOfWord_14 mv_RX9_57 rfl rfl (Nat.le_of_ble_eq_true rfl) ?_
    refine ok_wordIs (i := 4) (by decide) hX hT h5 h4 hp ?_
    show V _ _ _ _ (_ :: _) _ _
    refine v_if_eq dX9_kindOfWord_17 (fun zc17 => ?_) (fun zc17 => ?_)
    · rw [if_neg (if01 zc17)] at hQ
      refine v_aload_n dX9_kindOfWord_22 rfl ?_
      refine v_ldcS (i := 5) dX9_kindOfWord_23 rfl (by decide) rfl ?_
      refine v_callV1 dX9_kindOfWord_25 mv_RX9_57 rfl rfl (Nat.le_of_ble_eq_true rfl) ?_
      refine ok_wordIs (i := 5) (by decide) hX hT h5 h4 hp ?_
      show V _ _ _ _ (_ :: _) _ _
      refine v_if_eq dX9_kindOfWord_28 (fun zc28 => ?_) (fun zc28 => ?_)
      · rw [if_neg (if01 zc28)] at hQ
        refine v_aload_n dX9_kindOfWord_33 rfl ?_
        refine v_ldcS (i := 6) dX9_kindOfWord_34 rfl (by decide) rfl ?_
        refine v_callV1 dX9_kindOfWord_36 mv_RX9_57 rfl rfl (Nat.le_of_ble_eq_true rfl) ?_
        refine ok_wordIs (i := 6) (by decide) hX hT h5 h4 hp ?_
        show V _ _ _ _ (_ :: _) _ _
        refine v_if_eq dX9_kindOfWord_39 (fun zc39 => ?_) (fun zc39 => ?_)
        · rw [if_neg (if01 zc39)] at hQ
          refine v_aload_n dX9_kindOfWord_44 rfl ?_
          refine v_ldcS (i := 7) dX9_kindOfWord_45 rfl (by decide) rfl ?_
          refine v_callV1 dX9_kindOfWord_47 mv_RX9_57 rfl rfl (Nat.le_of_ble_eq_true rfl) ?_
          refine ok_wordIs (i := 7) (by decide) hX hT h5 h4 hp ?_
          show V _ _ _ _ (_ :: _) _ _
          refine v_if_eq dX9_kindOfWord_50 (fun zc50 => ?_) (fun zc50 => ?_)
          · rw [if_neg (if01 zc50)] at hQ
            refine v_aload_n dX9_kindOfWord_55 rfl ?_
            refine v_ldcS (i := 8) dX9_kindOfWord_56 rfl (by decide) rfl ?_
            refine v_callV1 dX9_kindOfWord_58 mv_RX9_57 rfl rfl (Nat.le_of_ble_eq_true rfl) ?_
            refine ok_wordIs (i := 8) (by decide) hX hT h5 h4 hp ?_
            show V _ _ _ _ (_ :: _) _ _
            refine v_if_eq dX9_kindOfWord_61 (fun zc61 => ?_) (fun zc61 => ?_)
            · rw [if_neg (if01 zc61)] at hQ
              refine v_aload_n dX9_kindOfWord_66 rfl ?_
              refine v_ldcS (i := 9) dX9_kindOfWord_67 rfl (by decide) rfl ?_
              refine v_callV1 dX9_kindOfWord_69 mv_RX9_57 rfl rfl (Nat.le_of_ble_eq_true rfl) ?_
              refine ok_wordIs (i := 9) (by decide) hX hT h5 h4 hp ?_
              show V _ _ _ _ (_ :: _) _ _
              refine v_if_eq dX9_kindOfWord_72 (fun zc72 => ?_) (fun zc72 => ?_)
              · rw [if_neg (if01 zc72)] at hQ
                refine v_aload_n dX9_kindOfWord_78 rfl ?_
                refine v_ldcS (i := 10) dX9_kindOfWord_79 rfl (by decide) rfl ?_
                refine v_callV1 dX9_kindOfWord_81 mv_RX9_57 rfl rfl (Nat.le_of_ble_eq_true rfl) ?_
                refine ok_wordIs (i := 10) (by decide) hX hT h5 h4 hp ?_
                show V _ _ _ _ (_ :: _) _ _
                refine v_if_eq dX9_kindOfWord_84 (fun zc84 => ?_) (fun zc84 => ?_)
                · rw [if_neg (if01 zc84)] at hQ
                  refine v_iconst dX9_kindOfWord_92 ?_
                  refine v_ireturn dX9_kindOfWord_93 rfl (rfl) ?_
                  exact hQ
                · rw [if_pos (if10 zc84)] at hQ
                  refine v_bipush dX9_kindOfWord_87 ?_
                  refine v_goto dX9_kindOfWord_89 ?_
                  refine v_ireturn dX9_kindOfWord_93 rfl (rfl) ?_
                  exact hQ
              · rw [if_pos (if10 zc72)] at hQ
                refine v_bipush dX9_kindOfWord_75 ?_
                refine v_ireturn dX9_kindOfWord_77 rfl (rfl) ?_
                exact hQ
            · rw [if_pos (if10 zc61)] at hQ
              refine v_iconst dX9_kindOfWord_64 ?_
              refine v_ireturn dX9_kindOfWord_65 rfl (rfl) ?_
              exact hQ
          · rw [if_pos (if10 zc50)] at hQ
            refine v_iconst dX9_kindOfWord_53 ?_
            refine v_ireturn dX9_kindOfWord_54 rfl (rfl) ?_
            exact hQ
        · rw [if_pos (if10 zc39)] at hQ
          refine v_iconst dX9_kindOfWord_42 ?_
          refine v_ireturn dX9_kindOfWord_43 rfl (rfl) ?_
          exact hQ
      · rw [if_pos (if10 zc28)] at hQ
        refine v_iconst dX9_kindOfWord_31 ?_
        refine v_ireturn dX9_kindOfWord_32 rfl (rfl) ?_
        exact hQ
    · rw [if_pos (if10 zc17)] at hQ
      refine v_iconst dX9_kindOfWord_20 ?_
      refine v_ireturn dX9_kindOfWord_21 rfl (rfl) ?_
      exact hQ
  · rw [if_pos (if10 zc6)] at hQ
    refine v_iconst dX9_kindOfWord_9 ?_
    refine v_ireturn dX9_kindOfWord_10 rfl (rfl) ?_
    exact hQ
theorem ok_refuse {a b : Int32} (hQ : Q (some (.int 0)) (setI (setI σ 1 2 a) 1 3 b)) : Ok D mX9_refuse [.ref 1, .int a, .int b] σ Q := by
  refine ok_enter rfl (Nat.le_of_ble_eq_true rfl) ?_
  refine v_aload_n dX9_refuse_0 rfl ?_
  refine v_iload_n dX9_refuse_1 rfl ?_
  refine v_putI dX9_refuse_2 fp_RX9_19 rfl ?_
  refine v_aload_n dX9_refuse_5 rfl ?_
  refine v_iload_n dX9_refuse_6 rfl ?_
  refine v_putI dX9_refuse_7 fp_RX9_22 rfl ?_
  refine v_iconst dX9_refuse_10 ?_
  refine v_ireturn dX9_refuse_11 rfl (rfl) ?_
  exact hQ
theorem ok_takeEnd (hX : RepX σ T) (hT : vT T) (h4 : σ.1 1 4 = nI i) (hi : i ≤ T.length) (hQ : ∀ τ x, EndP σ τ T i x → Q (some (.int x)) τ) : Ok (D + 2) mX9_takeEnd [.ref 1] σ Q := by
  have hl := hT.1
  have hp : skp T i ≤ T.length := spn_le hi
  refine ok_enter rfl (Nat.le_of_ble_eq_true rfl) ?_
  refine v_aload_n dX9_takeEnd_0 rfl ?_
  refine v_callV0 dX9_takeEnd_1 mv_RX9_42 rfl rfl (Nat.le_of_ble_eq_true rfl) ?_
  refine ok_skip hX hT h4 hi (fun τ f1 f2 => ?_)
  have hX2 : RepX τ T := hX.kept (fun a b h => f1.1 a b (by omega))
  show V _ _ _ _ _ _ _
  refine v_aload_n dX9_takeEnd_4 rfl ?_
  refine v_aload_n dX9_takeEnd_5 rfl ?_
  refine v_getI dX9_takeEnd_6 fl_RX9_25 rfl ?_
  rw [f2]
  refine v_bipush dX9_takeEnd_9 ?_
  refine v_bipush dX9_takeEnd_11 ?_
  refine v_callV3 dX9_takeEnd_13 mv_RX9_100 rfl rfl (Nat.le_of_ble_eq_true rfl) ?_
  refine ok_between (lo := 59) (hi' := 59) hX2 hT hp (by omega) (by omega) ?_
  show V _ _ _ _ (_ :: _) _ _
  refine v_if_ne dX9_takeEnd_16 (fun zc16 => ?_) (fun zc16 => ?_)
  · have hz := if10 zc16
    have hg : T[skp T i]? = some 59 := by
      obtain ⟨hlt, hz1, hz2⟩ := hz
      have e : T.getD (skp T i) 0 = T[skp T i]'hlt := by rw [List.getD, List.getElem?_eq_getElem hlt]; rfl
      rw [e] at hz1 hz2
      rw [List.getElem?_eq_getElem hlt]
      exact congrArg some (by omega)
    refine v_aload_n dX9_takeEnd_29 rfl ?_
    refine v_dup dX9_takeEnd_30 rfl ?_
    refine v_getI dX9_takeEnd_31 fl_RX9_25 rfl ?_
    rw [f2]
    refine v_iconst dX9_takeEnd_34 ?_
    refine v_iadd dX9_takeEnd_35 ?_
    rw [nI_1]
    refine v_putI dX9_takeEnd_36 fp_RX9_25 rfl ?_
    refine v_iconst dX9_takeEnd_39 ?_
    refine v_ireturn dX9_takeEnd_40 rfl (rfl) ?_
    exact hQ _ _ (Or.inr ⟨rfl, skp T i + 1, by unfold Pe; rw [if_pos hg], f1.set ⟨rfl, rfl⟩, setI_same⟩)
  · have hz := if01 zc16
    have hg : ¬ T[skp T i]? = some 59 := fun h => hz (by
      have hlt := (List.getElem?_eq_some_iff.mp h).1
      have e : T.getD (skp T i) 0 = 59 := by rw [List.getD, h]; rfl
      exact ⟨hlt, by omega, by omega⟩)
    refine v_aload_n dX9_takeEnd_19 rfl ?_
    refine v_iconst dX9_takeEnd_20 ?_
    refine v_aload_n dX9_takeEnd_21 rfl ?_
    refine v_getI dX9_takeEnd_22 fl_RX9_25 rfl ?_
    rw [f2]
    refine v_callV2 dX9_takeEnd_25 mv_RX9_61 rfl rfl (Nat.le_of_ble_eq_true rfl) ?_
    refine ok_refuse ?_
    show V _ _ _ _ (_ :: _) _ _
    refine v_ireturn dX9_takeEnd_28 rfl (rfl) ?_
    exact hQ _ _ (Or.inl ⟨rfl, (1, skp T i), by unfold Pe; rw [if_neg hg], ((f1.mn (fun a b h => ⟨h.1, by omega, by omega⟩)).set ⟨rfl, by omega, by omega⟩).set ⟨rfl, by omega, by omega⟩, by rw [setI_ne (by omega), setI_same]; rfl, by rw [setI_same]⟩)
theorem ok_takeNumber (hX : RepX σ T) (hT : vT T) (h4 : σ.1 1 4 = nI i) (hi : i ≤ T.length) (hlo : lo < 1000) (hhi : k < 1000) (hQ : ∀ τ x, NumP σ τ T lo k i x → Q (some (.int x)) τ) : Ok (D + 2) mX9_takeNumber [.ref 1, .int (nI lo), .int (nI k)] σ Q := by
  have hl := hT.1
  have hp : skp T i ≤ T.length := spn_le hi
  have hn1 : skp T i ≤ spn isDi T (skp T i) := spn_ge
  have hn2 : spn isDi T (skp T i) ≤ T.length := spn_le hp
  have hv := nv_lt (i := skp T i) (k := spn isDi T (skp T i) - skp T i) hT
  have fin : ∀ τ, Fr (fun a b => a = 1 ∧ (b = 4 ∨ b = 6 ∨ b = 7)) σ τ → τ.1 1 6 = nI (skp T i) → τ.1 1 4 = nI (spn isDi T (skp T i)) → τ.1 1 7 = nI (nmb T (skp T i)) → V mX9_takeNumber (D + 2) 95 [some (.ref 1), some (.int (nI lo)), some (.int (nI k))] [] τ Q := by
    intro τ hF h6 hn h7
    have hvv : nmb T (skp T i) < 1000000 := hv
    have hbad : (3 < spn isDi T (skp T i) - skp T i ∨ nmb T (skp T i) < lo ∨ k < nmb T (skp T i)) → ¬ spn isDi T (skp T i) = skp T i → Q (some (.int 0)) (setI (setI τ 1 2 2) 1 3 (nI (skp T i))) := fun h1 h2 => hQ _ _ (Or.inl ⟨rfl, (2, skp T i), by unfold Pn; rw [if_neg h2, if_pos h1], ((hF.mn (fun a b h => ⟨h.1, by omega, by omega⟩)).set ⟨rfl, by omega, by omega⟩).set ⟨rfl, by omega, by omega⟩, by rw [setI_ne (by omega), setI_same]; rfl, by rw [setI_same]⟩)
    refine v_aload_n dX9_takeNumber_95 rfl ?_
    refine v_getI dX9_takeNumber_96 fl_RX9_25 rfl ?_
    rw [hn]
    refine v_aload_n dX9_takeNumber_99 rfl ?_
    refine v_getI dX9_takeNumber_100 fl_RX9_31 rfl ?_
    rw [h6]
    refine v_icmp_ne dX9_takeNumber_103 (fun zc103 => ?_) (fun zc103 => ?_)
    · rw [nI_eq (by omega) (by omega)] at zc103
      refine v_aload_n dX9_takeNumber_116 rfl ?_
      refine v_getI dX9_takeNumber_117 fl_RX9_25 rfl ?_
      rw [hn]
      refine v_aload_n dX9_takeNumber_120 rfl ?_
      refine v_getI dX9_takeNumber_121 fl_RX9_31 rfl ?_
      rw [h6]
      refine v_isub dX9_takeNumber_124 ?_
      refine v_iconst dX9_takeNumber_125 ?_
      rw [zI_sub (by omega), show (3 : Int32) = nI 3 from rfl]
      refine v_icmp_gt dX9_takeNumber_126 (fun zc126 => ?_) (fun zc126 => ?_)
      · rw [nI_ltI (by omega) (by omega)] at zc126
        refine v_aload_n dX9_takeNumber_145 rfl ?_
        refine v_iconst dX9_takeNumber_146 ?_
        refine v_aload_n dX9_takeNumber_147 rfl ?_
        refine v_getI dX9_takeNumber_148 fl_RX9_31 rfl ?_
        rw [h6]
        refine v_callV2 dX9_takeNumber_151 mv_RX9_61 rfl rfl (Nat.le_of_ble_eq_true rfl) ?_
        refine ok_refuse ?_
        show V _ _ _ _ (_ :: _) _ _
        refine v_ireturn dX9_takeNumber_154 rfl (rfl) ?_
        exact hbad (by omega) zc103
      · rw [nI_ltI (by omega) (by omega)] at zc126
        refine v_aload_n dX9_takeNumber_129 rfl ?_
        refine v_getI dX9_takeNumber_130 fl_RX9_34 rfl ?_
        rw [h7]
        refine v_iload_n dX9_takeNumber_133 rfl ?_
        refine v_icmp_lt dX9_takeNumber_134 (fun zc134 => ?_) (fun zc134 => ?_)
        · rw [nI_ltI (by omega) (by omega)] at zc134
          refine v_aload_n dX9_takeNumber_145 rfl ?_
          refine v_iconst dX9_takeNumber_146 ?_
          refine v_aload_n dX9_takeNumber_147 rfl ?_
          refine v_getI dX9_takeNumber_148 fl_RX9_31 rfl ?_
          rw [h6]
          refine v_callV2 dX9_takeNumber_151 mv_RX9_61 rfl rfl (Nat.le_of_ble_eq_true rfl) ?_
          refine ok_refuse ?_
          show V _ _ _ _ (_ :: _) _ _
          refine v_ireturn dX9_takeNumber_154 rfl (rfl) ?_
          exact hbad (by omega) zc103
        · rw [nI_ltI (by omega) (by omega)] at zc134
          refine v_aload_n dX9_takeNumber_137 rfl ?_
          refine v_getI dX9_takeNumber_138 fl_RX9_34 rfl ?_
          rw [h7]
          refine v_iload_n dX9_takeNumber_141 rfl ?_
          refine v_icmp_le dX9_takeNumber_142 (fun zc142 => ?_) (fun zc142 => ?_)
          · rw [nI_leI (by omega) (by omega)] at zc142
            refine v_iconst dX9_takeNumber_155 ?_
            refine v_ireturn dX9_takeNumber_156 rfl (rfl) ?_
            exact hQ _ _ (Or.inr ⟨rfl, nmb T (skp T i), spn isDi T (skp T i), by unfold Pn; rw [if_neg zc103, if_neg (by omega)], hF, hn, h6, h7⟩)
          · rw [nI_leI (by omega) (by omega)] at zc142
            refine v_aload_n dX9_takeNumber_145 rfl ?_
            refine v_iconst dX9_takeNumber_146 ?_
            refine v_aload_n dX9_takeNumber_147 rfl ?_
            refine v_getI dX9_takeNumber_148 fl_RX9_31 rfl ?_
            rw [h6]
            refine v_callV2 dX9_takeNumber_151 mv_RX9_61 rfl rfl (Nat.le_of_ble_eq_true rfl) ?_
            refine ok_refuse ?_
            show V _ _ _ _ (_ :: _) _ _
            refine v_ireturn dX9_takeNumber_154 rfl (rfl) ?_
            exact hbad (by omega) zc103
    · rw [nI_eq (by omega) (by omega)] at zc103
      refine v_aload_n dX9_takeNumber_106 rfl ?_
      refine v_iconst dX9_takeNumber_107 ?_
      refine v_aload_n dX9_takeNumber_108 rfl ?_
      refine v_getI dX9_takeNumber_109 fl_RX9_25 rfl ?_
      rw [hn]
      refine v_callV2 dX9_takeNumber_112 mv_RX9_61 rfl rfl (Nat.le_of_ble_eq_true rfl) ?_
      refine ok_refuse ?_
      show V _ _ _ _ (_ :: _) _ _
      refine v_ireturn dX9_takeNumber_115 rfl (rfl) ?_
      exact hQ _ _ (Or.inl ⟨rfl, (1, skp T i), by unfold Pn; rw [if_pos zc103], ((hF.mn (fun a b h => ⟨h.1, by omega, by omega⟩)).set ⟨rfl, by omega, by omega⟩).set ⟨rfl, by omega, by omega⟩, by rw [setI_ne (by omega), setI_same]; rfl, by rw [setI_same, zc103]⟩)
  have loop : ∀ j c τ, c + j = T.length → skp T i ≤ c → spn isDi T c = spn isDi T (skp T i) → Fr (fun a b => a = 1 ∧ (b = 4 ∨ b = 6 ∨ b = 7)) σ τ → τ.1 1 6 = nI (skp T i) → τ.1 1 4 = nI c → τ.1 1 7 = nI (nv T (skp T i) (c - skp T i)) → V mX9_takeNumber (D + 2) 17 [some (.ref 1), some (.int (nI lo)), some (.int (nI k))] [] τ Q := by
    intro j
    induction j with
    | zero =>
      intro c τ hc hpc hs hF h6 hn h7
      have hX2 : RepX τ T := hX.kept (fun a b h => hF.1 a b (by omega))
      have e : c = spn isDi T (skp T i) := by rw [← hs, spn_end (by omega)]
      have h95 := fin τ hF h6 (by rw [hn, e]) (by rw [h7, e]; rfl)
      refine v_aload_n dX9_takeNumber_17 rfl ?_
      refine v_getI dX9_takeNumber_18 fl_RX9_25 rfl ?_
      rw [hn]
      refine v_aload_n dX9_takeNumber_21 rfl ?_
      refine v_getI dX9_takeNumber_22 fl_RX9_15 rfl ?_
      rw [hX2.1]
      refine v_icmp_ge dX9_takeNumber_25 (fun zc25 => ?_) (fun zc25 => ?_)
      · exact h95
      · exact absurd (nI_le (by omega) (by omega)) zc25
    | succ j ih =>
      intro c τ hc hpc hs hF h6 hn h7
      have hcl : c < T.length := by omega
      have hX2 : RepX τ T := hX.kept (fun a b h => hF.1 a b (by omega))
      have hg : T.getD c 0 = T[c] := by rw [List.getD, List.getElem?_eq_getElem hcl]; rfl
      have hb := hX2.at hcl
      by_cases he : 48 ≤ T[c] ∧ T[c] ≤ 57
      · have hs2 : spn isDi T (c + 1) = spn isDi T (skp T i) := by rw [← hs]; exact (spn_step hcl (decide_eq_true he)).symm
        rcases Nat.lt_or_ge (c - skp T i) 3 with h3 | h3
        · have hvs := nv_s (T := T) (i := skp T i) (k := c - skp T i) (by omega) h3
          have hge : T[skp T i + (c - skp T i)]'(by omega) = T[c] := by simp only [show skp T i + (c - skp T i) = c by omega]
          rw [hge] at hvs
          have hnx := ih (c + 1) (setI (setI τ 1 7 (nI (10 * nv T (skp T i) (c - skp T i) + (T[c] - 48)))) 1 4 (nI (c + 1))) (by omega) (by omega) hs2 ((hF.set ⟨rfl, by omega⟩).set ⟨rfl, by omega⟩) (by rw [setI_ne (by omega), setI_ne (by omega)]; exact h6) setI_same (by rw [setI_ne (by omega), setI_same, show c + 1 - skp T i = c - skp T i + 1 by omega, hvs])
          refine v_aload_n dX9_takeNumber_17 rfl ?_
          refine v_getI dX9_takeNumber_18 fl_RX9_25 rfl ?_
          rw [hn]
          refine v_aload_n dX9_takeNumber_21 rfl ?_
          refine v_getI dX9_takeNumber_22 fl_RX9_15 rfl ?_
          rw [hX2.1]
          refine v_icmp_ge dX9_takeNumber_25 (fun zc25 => ?_) (fun zc25 => ?_)
          · exact absurd zc25 (nI_ge (by omega) (by omega))
          · refine v_aload_n dX9_takeNumber_28 rfl ?_
            refine v_aload_n dX9_takeNumber_29 rfl ?_
            refine v_getI dX9_takeNumber_30 fl_RX9_25 rfl ?_
            rw [hn]
            refine v_bipush dX9_takeNumber_33 ?_
            refine v_bipush dX9_takeNumber_35 ?_
            refine v_callV3 dX9_takeNumber_37 mv_RX9_100 rfl rfl (Nat.le_of_ble_eq_true rfl) ?_
            refine ok_between (lo := 48) (hi' := 57) hX2 hT (by omega) (by omega) (by omega) ?_
            rw [hg, if_pos ⟨hcl, he⟩]
            show V _ _ _ _ (_ :: _) _ _
            refine v_if_eq dX9_takeNumber_40 (fun zc40 => ?_) (fun zc40 => ?_)
            · exact absurd zc40 (by decide)
            · refine v_aload_n dX9_takeNumber_43 rfl ?_
              refine v_getI dX9_takeNumber_44 fl_RX9_25 rfl ?_
              rw [hn]
              refine v_aload_n dX9_takeNumber_47 rfl ?_
              refine v_getI dX9_takeNumber_48 fl_RX9_31 rfl ?_
              rw [h6]
              refine v_isub dX9_takeNumber_51 ?_
              refine v_iconst dX9_takeNumber_52 ?_
              rw [zI_sub (by omega)]
              refine v_icmp_ge dX9_takeNumber_53 (fun zc53 => ?_) (fun zc53 => ?_)
              · exact absurd zc53 (nI_ge (b := 3) h3 (by omega))
              · refine v_aload_n dX9_takeNumber_56 rfl ?_
                refine v_aload_n dX9_takeNumber_57 rfl ?_
                refine v_getI dX9_takeNumber_58 fl_RX9_34 rfl ?_
                rw [h7]
                refine v_bipush dX9_takeNumber_61 ?_
                refine v_imul dX9_takeNumber_63 ?_
                refine v_aload_n dX9_takeNumber_64 rfl ?_
                refine v_getR (q := 2) dX9_takeNumber_65 fl_RX9_9 rfl rfl ?_
                refine v_aload_n dX9_takeNumber_68 rfl ?_
                refine v_getI dX9_takeNumber_69 fl_RX9_25 rfl ?_
                rw [hn]
                refine v_callS2 dX9_takeNumber_72 ms_RX9_96 (Nat.le_of_ble_eq_true rfl) ?_
                refine ok_at rfl (by decide) ?_
                rw [vAt_nI (by omega) (by omega), hb]
                show V _ _ _ _ (_ :: _) _ _
                refine v_iadd dX9_takeNumber_75 ?_
                refine v_bipush dX9_takeNumber_76 ?_
                refine v_isub dX9_takeNumber_78 ?_
                rw [show nI (nv T (skp T i) (c - skp T i)) * (10 : Int32) + nI T[c] - 48 = nI (10 * nv T (skp T i) (c - skp T i) + (T[c] - 48)) by rw [iz_nI, iz_nI, iz_nI, show (10 : Int32) = iz 10 from rfl, show (48 : Int32) = iz 48 from rfl, iz_mul, iz_add, iz_sub]; congr 1; omega]
                refine v_putI dX9_takeNumber_79 fp_RX9_34 rfl ?_
                refine v_aload_n dX9_takeNumber_82 rfl ?_
                refine v_dup dX9_takeNumber_83 rfl ?_
                refine v_getI dX9_takeNumber_84 fl_RX9_25 rfl ?_
                rw [setI_ne (by omega), hn]
                refine v_iconst dX9_takeNumber_87 ?_
                refine v_iadd dX9_takeNumber_88 ?_
                rw [nI_1]
                refine v_putI dX9_takeNumber_89 fp_RX9_25 rfl ?_
                refine v_goto dX9_takeNumber_92 ?_
                exact hnx
        · have hnx := ih (c + 1) (setI τ 1 4 (nI (c + 1))) (by omega) (by omega) hs2 (hF.set ⟨rfl, by omega⟩) (by rw [setI_ne (by omega)]; exact h6) setI_same (by rw [setI_ne (by omega), h7, show c + 1 - skp T i = c - skp T i + 1 by omega, nv_3 h3])
          refine v_aload_n dX9_takeNumber_17 rfl ?_
          refine v_getI dX9_takeNumber_18 fl_RX9_25 rfl ?_
          rw [hn]
          refine v_aload_n dX9_takeNumber_21 rfl ?_
          refine v_getI dX9_takeNumber_22 fl_RX9_15 rfl ?_
          rw [hX2.1]
          refine v_icmp_ge dX9_takeNumber_25 (fun zc25 => ?_) (fun zc25 => ?_)
          · exact absurd zc25 (nI_ge (by omega) (by omega))
          · refine v_aload_n dX9_takeNumber_28 rfl ?_
            refine v_aload_n dX9_takeNumber_29 rfl ?_
            refine v_getI dX9_takeNumber_30 fl_RX9_25 rfl ?_
            rw [hn]
            refine v_bipush dX9_takeNumber_33 ?_
            refine v_bipush dX9_takeNumber_35 ?_
            refine v_callV3 dX9_takeNumber_37 mv_RX9_100 rfl rfl (Nat.le_of_ble_eq_true rfl) ?_
            refine ok_between (lo := 48) (hi' := 57) hX2 hT (by omega) (by omega) (by omega) ?_
            rw [hg, if_pos ⟨hcl, he⟩]
            show V _ _ _ _ (_ :: _) _ _
            refine v_if_eq dX9_takeNumber_40 (fun zc40 => ?_) (fun zc40 => ?_)
            · exact absurd zc40 (by decide)
            · refine v_aload_n dX9_takeNumber_43 rfl ?_
              refine v_getI dX9_takeNumber_44 fl_RX9_25 rfl ?_
              rw [hn]
              refine v_aload_n dX9_takeNumber_47 rfl ?_
              refine v_getI dX9_takeNumber_48 fl_RX9_31 rfl ?_
              rw [h6]
              refine v_isub dX9_takeNumber_51 ?_
              refine v_iconst dX9_takeNumber_52 ?_
              rw [zI_sub (by omega)]
              refine v_icmp_ge dX9_takeNumber_53 (fun zc53 => ?_) (fun zc53 => ?_)
              · refine v_aload_n dX9_takeNumber_82 rfl ?_
                refine v_dup dX9_takeNumber_83 rfl ?_
                refine v_getI dX9_takeNumber_84 fl_RX9_25 rfl ?_
                rw [hn]
                refine v_iconst dX9_takeNumber_87 ?_
                refine v_iadd dX9_takeNumber_88 ?_
                rw [nI_1]
                refine v_putI dX9_takeNumber_89 fp_RX9_25 rfl ?_
                refine v_goto dX9_takeNumber_92 ?_
                exact hnx
              · exact absurd (nI_le (a := 3) h3 (by omega)) zc53
      · have e : c = spn isDi T (skp T i) := by rw [← hs, spn_stop hcl (decide_eq_false he)]
        have h95 := fin τ hF h6 (by rw [hn, e]) (by rw [h7, e]; rfl)
        refine v_aload_n dX9_takeNumber_17 rfl ?_
        refine v_getI dX9_takeNumber_18 fl_RX9_25 rfl ?_
        rw [hn]
        refine v_aload_n dX9_takeNumber_21 rfl ?_
        refine v_getI dX9_takeNumber_22 fl_RX9_15 rfl ?_
        rw [hX2.1]
        refine v_icmp_ge dX9_takeNumber_25 (fun zc25 => ?_) (fun zc25 => ?_)
        · exact absurd zc25 (nI_ge (by omega) (by omega))
        · refine v_aload_n dX9_takeNumber_28 rfl ?_
          refine v_aload_n dX9_takeNumber_29 rfl ?_
          refine v_getI dX9_takeNumber_30 fl_RX9_25 rfl ?_
          rw [hn]
          refine v_bipush dX9_takeNumber_33 ?_
          refine v_bipush dX9_takeNumber_35 ?_
          refine v_callV3 dX9_takeNumber_37 mv_RX9_100 rfl rfl (Nat.le_of_ble_eq_true rfl) ?_
          refine ok_between (lo := 48) (hi' := 57) hX2 hT (by omega) (by omega) (by omega) ?_
          rw [hg, if_neg (fun h => he h.2)]
          show V _ _ _ _ (_ :: _) _ _
          refine v_if_eq dX9_takeNumber_40 (fun zc40 => ?_) (fun zc40 => ?_)
          · exact h95
          · exact absurd rfl zc40
  refine ok_enter rfl (Nat.le_of_ble_eq_true rfl) ?_
  refine v_aload_n dX9_takeNumber_0 rfl ?_
  refine v_callV0 dX9_takeNumber_1 mv_RX9_42 rfl rfl (Nat.le_of_ble_eq_true rfl) ?_
  refine ok_skip hX hT h4 hi (fun τ f1 f2 => ?_)
  show V _ _ _ _ _ _ _
  refine v_aload_n dX9_takeNumber_4 rfl ?_
  refine v_aload_n dX9_takeNumber_5 rfl ?_
  refine v_getI dX9_takeNumber_6 fl_RX9_25 rfl ?_
  rw [f2]
  refine v_putI dX9_takeNumber_9 fp_RX9_31 rfl ?_
  refine v_aload_n dX9_takeNumber_12 rfl ?_
  refine v_iconst dX9_takeNumber_13 ?_
  refine v_putI dX9_takeNumber_14 fp_RX9_34 rfl ?_
  exact loop (T.length - skp T i) (skp T i) _ (by omega) (Nat.le_refl _) rfl (((f1.mn (fun a b h => ⟨h.1, Or.inl h.2⟩)).set ⟨rfl, by omega⟩).set ⟨rfl, by omega⟩) (by rw [setI_ne (by omega), setI_same]) (by rw [setI_ne (by omega), setI_ne (by omega)]; exact f2) (by rw [setI_same, Nat.sub_self, nv_0]; rfl)
end CX1
