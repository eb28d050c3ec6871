/-! ===== a key that has lost its letter: the class ===== -/
def TB (σ : Wd) (u : Nat) : Prop := σ.1 39 3 = nI (bl u).length ∧ ∀ (i a : Nat), (bl u)[i]? = some a → σ.1 42 i = nI a
def isB (b : Int32) (P : Prop) : Prop := (b = 1 ∧ P) ∨ (b = 0 ∧ ¬ P)
def TRow (σ : Wd) (R : Rk) (s : St) (u d : Nat) (ks : List Nat) : Prop := ∀ (i a : Nat), (bl u)[i]? = some a → σ.1 40 (8 * d + i) = nI (ps (rdT R a s ks)) ∧ σ.1 41 (8 * d + i) = nI (bas 128 (rdS R a s ks))
def TrF (d : Nat) (σ τ : Wd) : Prop := (∀ a b, ¬ ((a = 40 ∨ a = 41) ∧ 8 * (d + 1) ≤ b) → τ.1 a b = σ.1 a b) ∧ τ.2 = σ.2
section CLo
variable {D : Nat} {σ τ υ : Wd} {Q : Option Value → Wd → Prop} {R : Rk} {s : St} {r n u d : Nat}
theorem TrF.rf : TrF d σ σ := ⟨fun _ _ _ => rfl, rfl⟩
theorem TrF.tr (h1 : TrF d σ τ) (h2 : TrF d τ υ) : TrF d σ υ := ⟨fun a b h => by rw [h2.1 a b h, h1.1 a b h], by rw [h2.2, h1.2]⟩
theorem TrF.up (h : TrF (d + 1) σ τ) : TrF d σ τ := ⟨fun a b hh => h.1 a b (by omega), h.2⟩
theorem TrF.tb (h : TrF d σ τ) (hT : TB σ u) : TB τ u := ⟨by rw [h.1 _ _ (by omega)]; exact hT.1, fun i a hi => by rw [h.1 _ _ (by omega)]; exact hT.2 i a hi⟩
theorem TrF.row {ks : List Nat} (h : TrF d σ τ) (hT : TRow σ R s u d ks) : TRow τ R s u d ks := fun i a hi => by
  have hl := (List.getElem?_eq_some_iff.mp hi).1
  have h8 := bl_len (u := u)
  rw [h.1 _ _ (by omega), h.1 _ _ (by omega)]
  exact hT i a hi
theorem TrF.rep (h : TrF d σ τ) (hr : vIsR r) (hR : RepR σ r R) : RepR τ r R := hR.kept (fun a b q1 q2 => h.1 _ _ (by rcases hr with rfl | rfl <;> omega))
theorem rd_b (hv : vR 8 R) (hs : vS R.2.2.2.1 s) (hu : u < 2 ^ R.2.2.2.2.length) {a : Nat} (ha : a ∈ bl u) {ks : List Nat} (hk : okK R ks) (hl : ks.length ≤ 4) : bas 128 (rdS R a s ks) < 128 ^ ks.length ∧ bas 128 (rdS R a s ks) < 268435456 := by
  have h1 := bas_lt (B := 128) (l := rdS R a s ks) (fun x hx => Nat.lt_of_lt_of_le (rdS_lt hv (bl_K hu ha) ks s hk hs x hx) (by decide))
  rw [rdS_len] at h1
  exact ⟨h1, Nat.lt_of_lt_of_le h1 (Nat.pow_le_pow_right (n := 128) (by decide) hl)⟩
theorem wPut_nI {k n i : Nat} {z : Int32} (hi : i < n) (hn : n < 2147483648) : wPut σ k n (nI i) z = setI σ k i z := by
  unfold wPut
  rw [nI_toInt (by omega), if_pos (by omega)]
  rfl
theorem ok_strokeAll {k : Nat} {ks : List Nat} (hr : vIsR r) (hR : RepR σ r R) (hv : vR 8 R) (hs : vS R.2.2.2.1 s) (hu : u < 2 ^ R.2.2.2.2.length) (hT : TB σ u) (hW : TRow σ R s u d ks) (hd : d ≤ 3) (hkl : ks.length = d) (hks : okK R ks) (hk : k ≤ R.2.2.2.2.length) (hQ : ∀ τ, TrF d σ τ → TRow τ R s u (d + 1) (ks ++ [k]) → Q none τ) : Ok (D + 4) mX10_strokeAll [.ref 39, .ref r, .int (nI d), .int (nI k)] σ Q := by
  have hnk := hv.n9
  have h8 := bl_len (u := u)
  have hm := hv.m100
  have loop : ∀ j i τ x7 x8, i + j = (bl u).length → TrF d σ τ → (∀ (i' a : Nat), i' < i → (bl u)[i']? = some a → τ.1 40 (8 * (d + 1) + i') = nI (ps (rdT R a s (ks ++ [k]))) ∧ τ.1 41 (8 * (d + 1) + i') = nI (bas 128 (rdS R a s (ks ++ [k])))) → V mX10_strokeAll (D + 4) 16 [some (.ref 39), some (.ref r), some (.int (nI d)), some (.int (nI k)), some (.int (nI (8 * d))), some (.int (nI (8 * d + 8))), some (.int (nI i)), x7, x8] [] τ Q := by
    intro j
    induction j with
    | zero =>
      intro i τ x7 x8 hi hF g1
      have ht := hF.tb hT
      refine v_iload dX10_strokeAll_16 rfl ?_
      refine v_aload_n dX10_strokeAll_18 rfl ?_
      refine v_getI dX10_strokeAll_19 fl_RX10_21 rfl ?_
      rw [ht.1]
      refine v_icmp_ge dX10_strokeAll_22 (fun zc22 => ?_) (fun zc22 => ?_)
      · refine v_return dX10_strokeAll_121 rfl ?_
        exact hQ τ hF (fun i' a ha => g1 i' a (by have := (List.getElem?_eq_some_iff.mp ha).1; omega) ha)
      · exact absurd (nI_le (by omega) (by omega)) zc22
    | succ j ih =>
      intro i τ x7 x8 hi hF g1
      have ht := hF.tb hT
      have hw := hF.row hW
      have hRR := hF.rep hr hR
      have hil : i < (bl u).length := by omega
      obtain ⟨a, ha⟩ : ∃ a, (bl u)[i]? = some a := ⟨_, List.getElem?_eq_getElem hil⟩
      have hmem := List.mem_of_getElem? ha
      have haK := bl_K hu hmem
      have hm2 := ht.2 i a ha
      obtain ⟨w1, w2⟩ := hw i a ha
      have hkk := kk_lt haK hk
      have hky : R.2.2.2.2[kk R a k]? = some (R.2.2.2.2.getD (kk R a k) (0, 0, 0, 0)) := by rw [List.getD, List.getElem?_eq_getElem hkk]; rfl
      have hvt := rdT_v hv haK ks s hks hs
      have hvn := nx_v hv hkk hvt
      have hsh := hvn.1
      have hb := rd_b hv hs hu hmem hks (show ks.length ≤ 4 by omega)
      have hb3 : bas 128 (rdS R a s ks) < 2097152 := Nat.lt_of_lt_of_le hb.1 (Nat.pow_le_pow_right (n := 128) (by decide) (show ks.length ≤ 3 by omega))
      have tail : ∀ x8, V mX10_strokeAll (D + 4) 48 [some (.ref 39), some (.ref r), some (.int (nI d)), some (.int (nI k)), some (.int (nI (8 * d))), some (.int (nI (8 * d + 8))), some (.int (nI i)), some (.int (nI (kk R a k))), x8] [] τ Q := by
        intro x8
        refine v_aload_n dX10_strokeAll_48 rfl ?_
        refine v_aload_n dX10_strokeAll_49 rfl ?_
        refine v_getR (q := 40) dX10_strokeAll_50 fl_RX10_9 rfl rfl ?_
        refine v_iload dX10_strokeAll_53 rfl ?_
        refine v_iload dX10_strokeAll_55 rfl ?_
        refine v_iadd dX10_strokeAll_57 ?_
        rw [nI_add]
        refine v_callS2 dX10_strokeAll_58 ms_RX10_46 (Nat.le_of_ble_eq_true rfl) ?_
        refine ok_at rfl (by decide) ?_
        rw [vAt_nI (by omega) (by omega), w1]
        show V _ _ _ _ (_ :: _) _ _
        refine v_iload dX10_strokeAll_61 rfl ?_
        refine v_callV2 dX10_strokeAll_63 mv_RX10_50 hr.lay rfl (Nat.le_of_ble_eq_true rfl) ?_
        refine ok_afterStroke hr hRR (show 8 ≤ 9 by decide) hv hvt hky ?_
        rw [show rk_str R (rdT R a s ks) (R.2.2.2.2.getD (kk R a k) (0, 0, 0, 0)) = nx R (rdT R a s ks) (kk R a k) from rfl]
        show V _ _ _ _ (_ :: _) _ _
        refine v_istore dX10_strokeAll_66 (Nat.le_of_ble_eq_true rfl) rfl ?_
        refine v_aload_n dX10_strokeAll_68 rfl ?_
        refine v_getR (q := 40) dX10_strokeAll_69 fl_RX10_9 rfl rfl ?_
        refine v_iload dX10_strokeAll_72 rfl ?_
        refine v_iload dX10_strokeAll_74 rfl ?_
        refine v_iadd dX10_strokeAll_76 ?_
        refine v_iload dX10_strokeAll_77 rfl ?_
        rw [nI_add]
        refine v_callS3 dX10_strokeAll_79 ms_RX10_25 (Nat.le_of_ble_eq_true rfl) ?_
        refine ok_put rfl (by decide) ?_
        rw [wPut_nI (by omega) (by omega)]
        show V _ _ _ _ _ _ _
        refine v_aload_n dX10_strokeAll_82 rfl ?_
        refine v_getR (q := 41) dX10_strokeAll_83 fl_RX10_15 rfl rfl ?_
        refine v_iload dX10_strokeAll_86 rfl ?_
        refine v_iload dX10_strokeAll_88 rfl ?_
        refine v_iadd dX10_strokeAll_90 ?_
        refine v_aload_n dX10_strokeAll_91 rfl ?_
        refine v_getR (q := 41) dX10_strokeAll_92 fl_RX10_15 rfl rfl ?_
        refine v_iload dX10_strokeAll_95 rfl ?_
        refine v_iload dX10_strokeAll_97 rfl ?_
        refine v_iadd dX10_strokeAll_99 ?_
        rw [nI_add, nI_add]
        refine v_callS2 dX10_strokeAll_100 ms_RX10_46 (Nat.le_of_ble_eq_true rfl) ?_
        refine ok_at rfl (by decide) ?_
        rw [vAt_nI (by omega) (by omega), setI_ne (by omega), w2]
        show V _ _ _ _ (_ :: _) _ _
        refine v_bipush dX10_strokeAll_103 ?_
        refine v_ishl dX10_strokeAll_105 ?_
        refine v_iload dX10_strokeAll_106 rfl ?_
        refine v_callS1 dX10_strokeAll_108 ms_RX10_54 (Nat.le_of_ble_eq_true rfl) ?_
        refine ok_shownIn ?_
        rw [ps_sh hm hvn]
        show V _ _ _ _ (_ :: _) _ _
        refine v_ior dX10_strokeAll_111 ?_
        rw [pk_shlN _ 7 rfl (by omega), Nat.mul_comm (bas 128 (rdS R a s ks)), nb_add 7 (by omega)]
        refine v_callS3 dX10_strokeAll_112 ms_RX10_25 (Nat.le_of_ble_eq_true rfl) ?_
        refine ok_put rfl (by decide) ?_
        rw [wPut_nI (by omega) (by omega)]
        show V _ _ _ _ _ _ _
        refine v_iinc dX10_strokeAll_115 rfl (Nat.le_of_ble_eq_true rfl) rfl ?_
        refine v_goto dX10_strokeAll_118 ?_
        rw [nI_1]
        refine ih (i + 1) _ _ _ (by omega) ⟨fun x y h => by rw [setI_ne (by omega), setI_ne (by omega)]; exact hF.1 x y h, hF.2⟩ (fun i' a' hi' ha' => ?_)
        rcases Nat.lt_or_ge i' i with h | h
        · rw [setI_ne (by omega), setI_ne (by omega), setI_ne (by omega), setI_ne (by omega)]
          exact g1 i' a' h ha'
        · have e : i' = i := by omega
          subst e
          rw [ha] at ha'
          obtain rfl := Option.some.inj ha'
          rw [rdT_app, rdS_app, bas_app, setI_ne (by omega), show 8 * (d + 1) + i' = 8 * d + 8 + i' by omega, setI_same, setI_same]
          exact ⟨rfl, rfl⟩
      refine v_iload dX10_strokeAll_16 rfl ?_
      refine v_aload_n dX10_strokeAll_18 rfl ?_
      refine v_getI dX10_strokeAll_19 fl_RX10_21 rfl ?_
      rw [ht.1]
      refine v_icmp_ge dX10_strokeAll_22 (fun zc22 => ?_) (fun zc22 => ?_)
      · exact absurd zc22 (nI_ge (by omega) (by omega))
      · refine v_iload_n dX10_strokeAll_25 rfl ?_
        refine v_aload_n dX10_strokeAll_26 rfl ?_
        refine v_getI dX10_strokeAll_27 fl_RX10_37 hr.lay ?_
        rw [hRR.2.2.2.2.1]
        refine v_icmp_ne dX10_strokeAll_30 (fun zc30 => ?_) (fun zc30 => ?_)
        · rw [nI_eq (by omega) (by omega)] at zc30
          refine v_iload_n dX10_strokeAll_45 rfl ?_
          refine v_istore dX10_strokeAll_46 (Nat.le_of_ble_eq_true rfl) rfl ?_
          first | (rw [show a = kk R a k by unfold kk; rw [if_pos zc30]]; have := tail x8; rw [show kk R a k = a by unfold kk; rw [if_pos zc30]] at this ⊢; exact this) | (have := tail x8; rw [show kk R a k = k by unfold kk; rw [if_neg zc30]] at this; exact this)
        · rw [nI_eq (by omega) (by omega)] at zc30
          refine v_aload_n dX10_strokeAll_33 rfl ?_
          refine v_getR (q := 42) dX10_strokeAll_34 fl_RX10_18 rfl rfl ?_
          refine v_iload dX10_strokeAll_37 rfl ?_
          refine v_callS2 dX10_strokeAll_39 ms_RX10_46 (Nat.le_of_ble_eq_true rfl) ?_
          refine ok_at rfl (by decide) ?_
          rw [vAt_nI (by omega) (by omega), hm2]
          show V _ _ _ _ (_ :: _) _ _
          refine v_goto dX10_strokeAll_42 ?_
          refine v_istore dX10_strokeAll_46 (Nat.le_of_ble_eq_true rfl) rfl ?_
          first | (rw [show a = kk R a k by unfold kk; rw [if_pos zc30]]; have := tail x8; rw [show kk R a k = a by unfold kk; rw [if_pos zc30]] at this ⊢; exact this) | (have := tail x8; rw [show kk R a k = k by unfold kk; rw [if_neg zc30]] at this; exact this)
  refine ok_enter rfl (Nat.le_of_ble_eq_true rfl) ?_
  refine v_iload_n dX10_strokeAll_0 rfl ?_
  refine v_bipush dX10_strokeAll_1 ?_
  refine v_imul dX10_strokeAll_3 ?_
  rw [show (8 : Int32) = nI 8 from rfl, pk_mul, Nat.mul_comm]
  refine v_istore dX10_strokeAll_4 (Nat.le_of_ble_eq_true rfl) rfl ?_
  refine v_iload dX10_strokeAll_6 rfl ?_
  refine v_bipush dX10_strokeAll_8 ?_
  refine v_iadd dX10_strokeAll_10 ?_
  rw [show (8 : Int32) = nI 8 from rfl, nI_add]
  refine v_istore dX10_strokeAll_11 (Nat.le_of_ble_eq_true rfl) rfl ?_
  refine v_iconst dX10_strokeAll_13 ?_
  refine v_istore dX10_strokeAll_14 (Nat.le_of_ble_eq_true rfl) rfl ?_
  exact loop (bl u).length 0 σ _ _ (by omega) TrF.rf (fun i' a h => absurd h (by omega))
theorem ok_allDiffer {ks : List Nat} (hv : vR 8 R) (hs : vS R.2.2.2.1 s) (hu : u < 2 ^ R.2.2.2.2.length) (hT : TB σ u) (hW : TRow σ R s u d ks) (hd : d ≤ 4) (hkl : ks.length = d) (hks : okK R ks) (hQ : ∀ b : Int32, isB b (tel R s u ks) → Q (some (.int b)) σ) : Ok (D + 1) mX10_allDiffer [.ref 39, .int (nI d)] σ Q := by
  have h8 := bl_len (u := u)
  have hcmp : ∀ (i j x y : Nat), (bl u)[i]? = some x → (bl u)[j]? = some y → (σ.1 41 (8 * d + i) = σ.1 41 (8 * d + j) ↔ rdS R x s ks = rdS R y s ks) := fun i j x y hx hy => by
    have mx := List.mem_of_getElem? hx
    have my := List.mem_of_getElem? hy
    have b1 := rd_b hv hs hu mx hks (show ks.length ≤ 4 by omega)
    have b2 := rd_b hv hs hu my hks (show ks.length ≤ 4 by omega)
    rw [(hW i x hx).2, (hW j y hy).2, nI_eq (by omega) (by omega)]
    exact bas_inj (by rw [rdS_len, rdS_len]) (fun z hz => Nat.lt_of_lt_of_le (rdS_lt hv (bl_K hu mx) ks s hks hs z hz) (by decide)) (fun z hz => Nat.lt_of_lt_of_le (rdS_lt hv (bl_K hu my) ks s hks hs z hz) (by decide))
  have loop : ∀ j i x4, i + j = (bl u).length → (∀ (p q x y : Nat), q < p → p < i → (bl u)[p]? = some x → (bl u)[q]? = some y → rdS R x s ks ≠ rdS R y s ks) → V mX10_allDiffer (D + 1) 7 [some (.ref 39), some (.int (nI d)), some (.int (nI (8 * d))), some (.int (nI i)), x4] [] σ Q := by
    intro j
    induction j with
    | zero =>
      intro i x4 hi hp
      refine v_iload_n dX10_allDiffer_7 rfl ?_
      refine v_aload_n dX10_allDiffer_8 rfl ?_
      refine v_getI dX10_allDiffer_9 fl_RX10_21 rfl ?_
      rw [hT.1]
      refine v_icmp_ge dX10_allDiffer_12 (fun zc12 => ?_) (fun zc12 => ?_)
      · refine v_iconst dX10_allDiffer_62 ?_
        refine v_ireturn dX10_allDiffer_63 rfl (rfl) ?_
        exact hQ 1 (Or.inl ⟨rfl, tel_ix.mpr (fun p q x y hpq hx hy => hp p q x y hpq (by have := (List.getElem?_eq_some_iff.mp hx).1; omega) hx hy)⟩)
      · exact absurd (nI_le (by omega) (by omega)) zc12
    | succ j ih =>
      intro i x4 hi hp
      have hil : i < (bl u).length := by omega
      have inner : ∀ l k, k + l = i → (∀ (q x y : Nat), q < k → (bl u)[i]? = some x → (bl u)[q]? = some y → rdS R x s ks ≠ rdS R y s ks) → V mX10_allDiffer (D + 1) 18 [some (.ref 39), some (.int (nI d)), some (.int (nI (8 * d))), some (.int (nI i)), some (.int (nI k))] [] σ Q := by
        intro l
        induction l with
        | zero =>
          intro k hk hq
          have hgo := fun x4 => ih (i + 1) x4 (by omega) (fun p q x y hpq hpi hx hy => by
            rcases Nat.lt_or_ge p i with h | h
            · exact hp p q x y hpq h hx hy
            · have e : p = i := by omega
              subst e
              exact hq q x y (by omega) hx hy)
          refine v_iload dX10_allDiffer_18 rfl ?_
          refine v_iload_n dX10_allDiffer_20 rfl ?_
          refine v_icmp_ge dX10_allDiffer_21 (fun zc21 => ?_) (fun zc21 => ?_)
          · refine v_iinc dX10_allDiffer_56 rfl (Nat.le_of_ble_eq_true rfl) rfl ?_
            refine v_goto dX10_allDiffer_59 ?_
            rw [nI_1]
            exact hgo _
          · exact absurd (nI_le (by omega) (by omega)) zc21
        | succ l ihl =>
          intro k hk hq
          obtain ⟨x, hx⟩ : ∃ x, (bl u)[i]? = some x := ⟨_, List.getElem?_eq_getElem hil⟩
          obtain ⟨y, hy⟩ : ∃ y, (bl u)[k]? = some y := ⟨_, List.getElem?_eq_getElem (by omega)⟩
          have hc := hcmp i k x y hx hy
          refine v_iload dX10_allDiffer_18 rfl ?_
          refine v_iload_n dX10_allDiffer_20 rfl ?_
          refine v_icmp_ge dX10_allDiffer_21 (fun zc21 => ?_) (fun zc21 => ?_)
          · exact absurd zc21 (nI_ge (by omega) (by omega))
          · refine v_aload_n dX10_allDiffer_24 rfl ?_
            refine v_getR (q := 41) dX10_allDiffer_25 fl_RX10_15 rfl rfl ?_
            refine v_iload_n dX10_allDiffer_28 rfl ?_
            refine v_iload_n dX10_allDiffer_29 rfl ?_
            refine v_iadd dX10_allDiffer_30 ?_
            rw [nI_add]
            refine v_callS2 dX10_allDiffer_31 ms_RX10_46 (Nat.le_of_ble_eq_true rfl) ?_
            refine ok_at rfl (by decide) ?_
            rw [vAt_nI (by omega) (by omega)]
            show V _ _ _ _ (_ :: _) _ _
            refine v_aload_n dX10_allDiffer_34 rfl ?_
            refine v_getR (q := 41) dX10_allDiffer_35 fl_RX10_15 rfl rfl ?_
            refine v_iload_n dX10_allDiffer_38 rfl ?_
            refine v_iload dX10_allDiffer_39 rfl ?_
            refine v_iadd dX10_allDiffer_41 ?_
            rw [nI_add]
            refine v_callS2 dX10_allDiffer_42 ms_RX10_46 (Nat.le_of_ble_eq_true rfl) ?_
            refine ok_at rfl (by decide) ?_
            rw [vAt_nI (by omega) (by omega)]
            show V _ _ _ _ (_ :: _) _ _
            refine v_icmp_ne dX10_allDiffer_45 (fun zc45 => ?_) (fun zc45 => ?_)
            · rw [hc] at zc45
              refine v_iinc dX10_allDiffer_50 rfl (Nat.le_of_ble_eq_true rfl) rfl ?_
              refine v_goto dX10_allDiffer_53 ?_
              rw [nI_1]
              refine ihl (k + 1) (by omega) (fun q x' y' hqk hx' hy' => ?_)
              rcases Nat.lt_or_ge q k with h | h
              · exact hq q x' y' h hx' hy'
              · have e : q = k := by omega
                subst e
                rw [hx] at hx'
                rw [hy] at hy'
                obtain rfl := Option.some.inj hx'
                obtain rfl := Option.some.inj hy'
                exact zc45
            · rw [hc] at zc45
              refine v_iconst dX10_allDiffer_48 ?_
              refine v_ireturn dX10_allDiffer_49 rfl (rfl) ?_
              exact hQ 0 (Or.inr ⟨rfl, fun ht => tel_ix.mp ht i k x y (by omega) hx hy zc45⟩)
      refine v_iload_n dX10_allDiffer_7 rfl ?_
      refine v_aload_n dX10_allDiffer_8 rfl ?_
      refine v_getI dX10_allDiffer_9 fl_RX10_21 rfl ?_
      rw [hT.1]
      refine v_icmp_ge dX10_allDiffer_12 (fun zc12 => ?_) (fun zc12 => ?_)
      · exact absurd zc12 (nI_ge (by omega) (by omega))
      · refine v_iconst dX10_allDiffer_15 ?_
        refine v_istore dX10_allDiffer_16 (Nat.le_of_ble_eq_true rfl) rfl ?_
        exact inner i 0 (by omega) (fun q x y h => absurd h (by omega))
  refine ok_enter rfl (Nat.le_of_ble_eq_true rfl) ?_
  refine v_iload_n dX10_allDiffer_0 rfl ?_
  refine v_bipush dX10_allDiffer_1 ?_
  refine v_imul dX10_allDiffer_3 ?_
  rw [show (8 : Int32) = nI 8 from rfl, pk_mul, Nat.mul_comm]
  refine v_istore_n dX10_allDiffer_4 (Nat.le_of_ble_eq_true rfl) rfl ?_
  refine v_iconst dX10_allDiffer_5 ?_
  refine v_istore_n dX10_allDiffer_6 (Nat.le_of_ble_eq_true rfl) rfl ?_
  exact loop (bl u).length 0 _ (by omega) (fun p q x y _ h => absurd h (by omega))
def canT (R : Rk) (s : St) (u : Nat) (ks : List Nat) (n : Nat) : Prop := ∃ l : List Nat, l.length = n ∧ okK R l ∧ tel R s u (ks ++ l)
theorem ok_D {D' : Nat} {M : MI} {as : List Value} (h : D = D') (hk : Ok D' M as σ Q) : Ok D M as σ Q := h ▸ hk
theorem canT_s {ks : List Nat} {n : Nat} : canT R s u ks (n + 1) ↔ ∃ k, k ≤ R.2.2.2.2.length ∧ canT R s u (ks ++ [k]) n := by
  constructor
  · rintro ⟨l, h1, h2, h3⟩
    cases l with
    | nil => simp at h1
    | cons k l => exact ⟨k, h2 k (List.mem_cons_self ..), l, by simpa using h1, fun j hj => h2 j (List.mem_cons_of_mem _ hj), by rw [List.append_assoc]; exact h3⟩
  · rintro ⟨k, hk, l, h1, h2, h3⟩
    refine ⟨k :: l, by rw [List.length_cons, h1], fun j hj => ?_, by rw [List.append_assoc] at h3; exact h3⟩
    rcases List.mem_cons.mp hj with e | e
    · omega
    · exact h2 j e
theorem ok_canTell : ∀ (j D : Nat) (σ : Wd) (Q : Option Value → Wd → Prop) (d n : Nat) (ks : List Nat), vIsR r → RepR σ r R → vR 8 R → vS R.2.2.2.1 s → u < 2 ^ R.2.2.2.2.length → TB σ u → TRow σ R s u d ks → d + j = n → n ≤ 4 → ks.length = d → okK R ks → (∀ τ b, TrF d σ τ → isB b (canT R s u ks j) → Q (some (.int b)) τ) → Ok (D + 5 + j) mX10_canTell [.ref 39, .ref r, .int (nI d), .int (nI n)] σ Q := by
  intro j
  induction j with
  | zero =>
    intro D σ Q d n ks hr hR hv hs hu hT hW hd hn hkl hks hQ
    have e : canT R s u ks 0 ↔ tel R s u ks := by
      constructor
      · rintro ⟨l, hl, h2, h3⟩
        rw [List.length_eq_zero_iff.mp hl, List.append_nil] at h3
        exact h3
      · intro h
        exact ⟨[], rfl, fun k hk => absurd hk List.not_mem_nil, by rw [List.append_nil]; exact h⟩
    refine ok_enter rfl (Nat.le_of_ble_eq_true rfl) ?_
    refine v_iload_n dX10_canTell_0 rfl ?_
    refine v_iload_n dX10_canTell_1 rfl ?_
    refine v_icmp_ge dX10_canTell_2 (fun zc2 => ?_) (fun zc2 => ?_)
    · refine v_aload_n dX10_canTell_10 rfl ?_
      refine v_iload_n dX10_canTell_11 rfl ?_
      refine v_callV1 dX10_canTell_12 mv_RX10_33 rfl rfl (Nat.le_of_ble_eq_true rfl) ?_
      refine ok_allDiffer hv hs hu hT hW (by omega) hkl hks (fun b hb => ?_)
      show V _ _ _ _ (_ :: _) _ _
      refine v_ireturn dX10_canTell_15 rfl (by rcases hb with ⟨rfl, _⟩ | ⟨rfl, _⟩ <;> rfl) ?_
      exact hQ σ b TrF.rf (by rw [isB, e]; exact hb)
    · exact absurd (nI_le (by omega) (by omega)) zc2
  | succ j ih =>
    intro D σ Q d n ks hr hR hv hs hu hT hW hd hn hkl hks hQ
    have hnk := hv.n9
    have loop : ∀ i k τ, k + i = R.2.2.2.2.length + 1 → TrF d σ τ → (∀ k', k' < k → ¬ canT R s u (ks ++ [k']) j) → V mX10_canTell (D + 1 + j + 5) 19 [some (.ref 39), some (.ref r), some (.int (nI d)), some (.int (nI n)), some (.int (nI k))] [] τ Q := by
      intro i
      induction i with
      | zero =>
        intro k τ hk hF hno
        have hRR := hF.rep hr hR
        refine v_iload dX10_canTell_19 rfl ?_
        refine v_aload_n dX10_canTell_21 rfl ?_
        refine v_getI dX10_canTell_22 fl_RX10_37 hr.lay ?_
        rw [hRR.2.2.2.2.1]
        refine v_icmp_gt dX10_canTell_25 (fun zc25 => ?_) (fun zc25 => ?_)
        · refine v_iconst dX10_canTell_56 ?_
          refine v_ireturn dX10_canTell_57 rfl (rfl) ?_
          exact hQ τ 0 hF (Or.inr ⟨rfl, fun h => by obtain ⟨k', h1, h2⟩ := canT_s.mp h; exact hno k' (by omega) h2⟩)
        · exact absurd zc25 (fun h => absurd (show nI R.2.2.2.2.length < nI k from nI_lt (by omega) (by omega)) h)
      | succ i ihk =>
        intro k τ hk hF hno
        have hRR := hF.rep hr hR
        refine v_iload dX10_canTell_19 rfl ?_
        refine v_aload_n dX10_canTell_21 rfl ?_
        refine v_getI dX10_canTell_22 fl_RX10_37 hr.lay ?_
        rw [hRR.2.2.2.2.1]
        refine v_icmp_gt dX10_canTell_25 (fun zc25 => ?_) (fun zc25 => ?_)
        · rw [nI_ltI (by omega) (by omega)] at zc25; exfalso; omega
        · refine v_aload_n dX10_canTell_28 rfl ?_
          refine v_aload_n dX10_canTell_29 rfl ?_
          refine v_iload_n dX10_canTell_30 rfl ?_
          refine v_iload dX10_canTell_31 rfl ?_
          refine v_callV3 dX10_canTell_33 mv_RX10_42 rfl rfl (Nat.le_of_ble_eq_true rfl) ?_
          refine ok_strokeAll (D := D + 1 + j) hr hRR hv hs hu (hF.tb hT) (hF.row hW) (by omega) hkl hks (show k ≤ R.2.2.2.2.length by omega) (fun τ1 f1 f2 => ?_)
          show V _ _ _ _ _ _ _
          refine v_aload_n dX10_canTell_36 rfl ?_
          refine v_aload_n dX10_canTell_37 rfl ?_
          refine v_iload_n dX10_canTell_38 rfl ?_
          refine v_iconst dX10_canTell_39 ?_
          refine v_iadd dX10_canTell_40 ?_
          refine v_iload_n dX10_canTell_41 rfl ?_
          rw [nI_1]
          refine v_callS4 dX10_canTell_42 ms_RX10_29 (Nat.le_of_ble_eq_true rfl) ?_
          refine ok_D (show D + 1 + j + 4 = D + 5 + j by omega) ?_
          refine ih D _ _ (d + 1) n (ks ++ [k]) hr (f1.rep hr hRR) hv hs hu (f1.tb (hF.tb hT)) f2 (by omega) hn (by rw [List.length_append, hkl]; rfl) (fun x hx => by rcases List.mem_append.mp hx with h | h; exact hks x h; rw [List.mem_singleton.mp h]; omega) (fun τ2 b f3 f5 => ?_)
          show V _ _ _ _ (_ :: _) _ _
          refine v_if_eq dX10_canTell_45 (fun zc45 => ?_) (fun zc45 => ?_)
          · refine v_iinc dX10_canTell_50 rfl (Nat.le_of_ble_eq_true rfl) rfl ?_
            refine v_goto dX10_canTell_53 ?_
            rw [nI_1]
            refine ihk (k + 1) τ2 (by omega) (hF.tr (f1.tr f3.up)) (fun k' hk' => ?_)
            rcases Nat.lt_or_ge k' k with h | h
            · exact hno k' h
            · have e : k' = k := by omega
              subst e
              rcases f5 with ⟨h5, _⟩ | ⟨_, h5⟩
              · rw [zc45] at h5; exact absurd h5 (by decide)
              · exact h5
          · refine v_iconst dX10_canTell_48 ?_
            refine v_ireturn dX10_canTell_49 rfl (rfl) ?_
            exact hQ τ2 1 (hF.tr (f1.tr f3.up)) (Or.inl ⟨rfl, canT_s.mpr ⟨k, by omega, by rcases f5 with ⟨_, h⟩ | ⟨h, _⟩; exact h; exact absurd h zc45⟩⟩)
    refine ok_D (show D + 5 + (j + 1) = D + 1 + j + 5 by omega) ?_
    refine ok_enter rfl (Nat.le_of_ble_eq_true rfl) ?_
    refine v_iload_n dX10_canTell_0 rfl ?_
    refine v_iload_n dX10_canTell_1 rfl ?_
    refine v_icmp_ge dX10_canTell_2 (fun zc2 => ?_) (fun zc2 => ?_)
    · exact absurd zc2 (nI_ge (by omega) (by omega))
    · refine v_iload_n dX10_canTell_5 rfl ?_
      refine v_iconst dX10_canTell_6 ?_
      refine v_icmp_lt dX10_canTell_7 (fun zc7 => ?_) (fun zc7 => ?_)
      · refine v_iconst dX10_canTell_16 ?_
        refine v_istore dX10_canTell_17 (Nat.le_of_ble_eq_true rfl) rfl ?_
        exact loop (R.2.2.2.2.length + 1) 0 σ (by omega) TrF.rf (fun k' h => absurd h (by omega))
      · exact absurd (show nI d < nI 4 from nI_lt (by omega) (by omega)) zc7
end CLo
