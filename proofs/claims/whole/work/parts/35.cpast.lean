/-! ===== what can have been struck: the class ===== -/
def PFr (b : Nat) (σ τ : Wd) : Prop := (∀ a c, a ≠ b → τ.1 a c = σ.1 a c) ∧ τ.2 = σ.2
section CPa
variable {D : Nat} {σ τ : Wd} {Q : Option Value → Wd → Prop} {R : Rk} {s : St} {r n : Nat}
theorem sh1 {k : Nat} (h : k < 9) : (1 : Int32) <<< (nI k &&& 31) = nI (2 ^ k) := by
  have : ∀ k, k < 9 → (1 : Int32) <<< (nI k &&& 31) = nI (2 ^ k) := by decide +kernel
  exact this k h
def vIsQ (b : Nat) : Prop := b = 24 ∨ b = 25
theorem vIsQ.lay {b : Nat} (h : vIsQ b) : vm_lay[b]? = some (1, 60200) := by rcases h with rfl | rfl <;> rfl
theorem PFr.rf {b : Nat} : PFr b σ σ := ⟨fun _ _ _ => rfl, rfl⟩
theorem PFr.set {b i : Nat} {x : Int32} (h : PFr b σ τ) : PFr b σ (setI τ b i x) := ⟨fun a c ha => by rw [setI_ne (by omega)]; exact h.1 a c ha, h.2⟩
/-- two groups, one of them not empty, joined -/
theorem ok_join {b q : Nat} {l1 l2 l : List Nat} (hb : vIsQ b) (hq : q < 60200) (h1 : σ.1 b q = nI (enc l1)) (h0 : ¬ l2.length = 0) (hl : l.length = l1.length + l2.length) (ha : andL l = andL l1 &&& andL l2) (hn : l.length ≤ 2097152) (hQ : Q none (setI σ b q (nI (enc l)))) : Ok (D + 1) mX4_join [.ref 38, .ref b, .int (nI q), .int (nI (enc l2))] σ Q := by
  have e1 := enc_le (l := l1)
  have e2 := enc_le (l := l2)
  have d1 := enc_div (l := l1)
  have d2 := enc_div (l := l2)
  have m2 := enc_mod h0
  have hput : ∀ z : Int32, wPut σ b 60200 (nI q) z = setI σ b q z := fun z => by
    unfold wPut
    rw [nI_toInt (by omega), if_pos (by omega)]
    rfl
  refine ok_enter rfl (Nat.le_of_ble_eq_true rfl) ?_
  refine v_aload_n dX4_join_0 rfl ?_
  refine v_iload_n dX4_join_1 rfl ?_
  refine v_callS2 dX4_join_2 ms_RX4_83 (Nat.le_of_ble_eq_true rfl) ?_
  refine ok_at hb.lay (by decide) ?_
  rw [vAt_nI (by omega) (by omega), h1]
  show V _ _ _ _ (_ :: _) _ _
  refine v_istore dX4_join_5 (Nat.le_of_ble_eq_true rfl) rfl ?_
  refine v_iload dX4_join_7 rfl ?_
  refine v_if_ne dX4_join_9 (fun zc9 => ?_) (fun zc9 => ?_)
  · rw [show (0 : Int32) = nI 0 from rfl, nI_eq (by omega) (by omega)] at zc9
    refine v_iload dX4_join_21 rfl ?_
    refine v_bipush dX4_join_23 ?_
    refine v_ishr dX4_join_25 ?_
    refine v_iload_n dX4_join_26 rfl ?_
    refine v_bipush dX4_join_27 ?_
    refine v_ishr dX4_join_29 ?_
    refine v_iadd dX4_join_30 ?_
    refine v_istore dX4_join_31 (Nat.le_of_ble_eq_true rfl) rfl ?_
    refine v_aload_n dX4_join_33 rfl ?_
    refine v_iload_n dX4_join_34 rfl ?_
    refine v_iload dX4_join_35 rfl ?_
    refine v_bipush dX4_join_37 ?_
    refine v_ishl dX4_join_39 ?_
    refine v_iload dX4_join_40 rfl ?_
    refine v_iload_n dX4_join_42 rfl ?_
    refine v_iand dX4_join_43 ?_
    refine v_sipush dX4_join_44 ?_
    refine v_iand dX4_join_47 ?_
    refine v_ior dX4_join_48 ?_
    rw [pk_shrN (by omega) _ 8 rfl, pk_shrN (by omega) _ 8 rfl, show (2 : Nat) ^ 8 = 256 from rfl, d1, d2, nI_add, pk_shlN _ 8 rfl (by omega), nb_and, pk_andN (Nat.lt_of_le_of_lt Nat.and_le_left (by omega)) (m := 255) 8 rfl, Nat.mul_comm, nb_add 8 (Nat.mod_lt _ (by decide)), Nat.and_mod_two_pow]
    refine v_callS3 dX4_join_49 ms_RX4_46 (Nat.le_of_ble_eq_true rfl) ?_
    refine ok_put hb.lay (by decide) ?_
    rw [hput]
    show V _ _ _ _ _ _ _
    refine v_return dX4_join_52 rfl ?_
    first | (have z1 : l1.length = 0 := enc_0.mp zc9; have e : enc l2 = enc l := (by unfold enc; rw [hl, z1, ha, List.length_eq_zero_iff.mp z1, show andL [] = 255 from rfl, Nat.and_comm, and_self255 (andL_lt _), Nat.zero_add]); rw [e]; exact hQ) | (have z1 : ¬ l1.length = 0 := fun h => zc9 (enc_0.mpr h); have e : 2 ^ 8 * (l1.length + l2.length) + (enc l1 % 2 ^ 8 &&& enc l2 % 2 ^ 8) = enc l := (by rw [show (2 : Nat) ^ 8 = 256 from rfl, enc_mod z1, m2, ← ha, ← hl]; unfold enc; rw [if_neg (by omega)]); rw [e]; exact hQ)
  · rw [show (0 : Int32) = nI 0 from rfl, nI_eq (by omega) (by omega)] at zc9
    refine v_aload_n dX4_join_12 rfl ?_
    refine v_iload_n dX4_join_13 rfl ?_
    refine v_iload_n dX4_join_14 rfl ?_
    refine v_callS3 dX4_join_15 ms_RX4_46 (Nat.le_of_ble_eq_true rfl) ?_
    refine ok_put hb.lay (by decide) ?_
    rw [hput]
    show V _ _ _ _ _ _ _
    refine v_goto dX4_join_18 ?_
    refine v_return dX4_join_52 rfl ?_
    first | (have z1 : l1.length = 0 := enc_0.mp zc9; have e : enc l2 = enc l := (by unfold enc; rw [hl, z1, ha, List.length_eq_zero_iff.mp z1, show andL [] = 255 from rfl, Nat.and_comm, and_self255 (andL_lt _), Nat.zero_add]); rw [e]; exact hQ) | (have z1 : ¬ l1.length = 0 := fun h => zc9 (enc_0.mpr h); have e : 2 ^ 8 * (l1.length + l2.length) + (enc l1 % 2 ^ 8 &&& enc l2 % 2 ^ 8) = enc l := (by rw [show (2 : Nat) ^ 8 = 256 from rfl, enc_mod z1, m2, ← ha, ← hl]; unfold enc; rw [if_neg (by omega)]); rw [e]; exact hQ)
theorem nPl_w {m p : Nat} (hm : 0 < m) (hp : p < nPl m) : p / 2 / m < 1 + 3 * m := by
  rw [Nat.div_lt_iff_lt_mul hm, Nat.div_lt_iff_lt_mul (by decide)]
  unfold nPl at hp
  rw [Nat.mul_comm (1 + 3 * m) m, Nat.mul_comm _ 2, ← Nat.mul_assoc]
  exact hp
theorem ok_pgoOn {a b : Nat} {L : List RS} (hr : vIsR r) (hR : RepR σ r R) (hv : vR 8 R) (hm : 0 < R.2.2.2.1) (ha : vIsQ a) (hb : vIsQ b) (hab : a ≠ b) (hL : ∀ x ∈ L, vS R.2.2.2.1 x.1) (hn : L.length * R.2.2.2.2.length ≤ 2097152) (hn8 : L.length ≤ 2097152)
    (ha1 : ∀ q, q < nPl R.2.2.2.1 → σ.1 a q = nI (enc (grp R.2.2.2.1 L q))) (hb1 : ∀ q, q < nPl R.2.2.2.1 → σ.1 b q = 0)
    (hQ : ∀ τ, PFr b σ τ → (∀ q, q < nPl R.2.2.2.1 → τ.1 b q = nI (enc (grp R.2.2.2.1 ((stkT R L).map (stkN R)) q))) → Q none τ) : Ok (D + 4) mX4_goOn [.ref 38, .ref r, .ref a, .ref b] σ Q := by
  have hm2 := hv.m100
  have hnk := hv.n9
  have hN := nPl_le hm2
  have hr12 : r + 4 < 13 ∧ 3 ≤ r := by rcases hr with rfl | rfl <;> omega
  have hb2 : b = 24 ∨ b = 25 := hb
  have ha2 : a = 24 ∨ a = 25 := ha
  have hRt : ∀ τ, PFr b σ τ → RepR τ r R := fun τ h => hR.kept (fun x y q1 q2 => h.1 _ _ (by omega))
  have hat : ∀ τ, PFr b σ τ → ∀ q, q < nPl R.2.2.2.1 → τ.1 a q = nI (enc (grp R.2.2.2.1 L q)) := fun τ h q hq => by rw [h.1 _ _ hab]; exact ha1 q hq
  have hgl : ∀ q, (grp R.2.2.2.1 L q).length ≤ L.length := fun q => by unfold grp; rw [List.length_map]; exact List.length_filter_le _ _
  have hgT : ∀ q p k, (grpC R (pl R.2.2.2.1) (fun x => pl R.2.2.2.1 x.1 = q) L p k).length ≤ 2097152 := fun q p k => Nat.le_trans grpC_len hn
  have hpl : ∀ x ∈ L, pl R.2.2.2.1 x.1 < nPl R.2.2.2.1 := fun x hx => pl_lt hm (hL x hx)
  have fin : ∀ τ x6 x7, PFr b σ τ → (∀ q, q < nPl R.2.2.2.1 → τ.1 b q = nI (enc (grpC R (pl R.2.2.2.1) (fun x => pl R.2.2.2.1 x.1 = q) L (nPl R.2.2.2.1) 0))) → V mX4_goOn (D + 4) 14 [some (.ref 38), some (.ref r), some (.ref a), some (.ref b), some (.int (nI (nPl R.2.2.2.1))), some (.int (nI (nPl R.2.2.2.1))), x6, x7] [] τ Q := by
    intro τ x6 x7 hF g1
    refine v_iload dX4_goOn_14 rfl ?_
    refine v_iload dX4_goOn_16 rfl ?_
    refine v_icmp_ge dX4_goOn_18 (fun zc18 => ?_) (fun zc18 => ?_)
    · refine v_return dX4_goOn_86 rfl ?_
      exact hQ τ hF (fun q hq => by rw [g1 q hq, grpC_end hpl]; rfl)
    · exact absurd (nI_le (Nat.le_refl _) (by omega)) zc18
  have loop : ∀ j p τ x6 x7, p + j = nPl R.2.2.2.1 → PFr b σ τ → (∀ q, q < nPl R.2.2.2.1 → τ.1 b q = nI (enc (grpC R (pl R.2.2.2.1) (fun x => pl R.2.2.2.1 x.1 = q) L p 0))) → V mX4_goOn (D + 4) 14 [some (.ref 38), some (.ref r), some (.ref a), some (.ref b), some (.int (nI (nPl R.2.2.2.1))), some (.int (nI p)), x6, x7] [] τ Q := by
    intro j
    induction j with
    | zero =>
      intro p τ x6 x7 hp hF g1
      obtain rfl : p = nPl R.2.2.2.1 := by omega
      exact fin τ x6 x7 hF g1
    | succ j ih =>
      intro p τ x6 x7 hp hF g1
      have hp2 : p < nPl R.2.2.2.1 := by omega
      have hpa := hat τ hF p hp2
      have hgp := hgl p
      have hle := enc_le (l := grp R.2.2.2.1 L p)
      have away : ∀ τ x6 x7, PFr b σ τ → (∀ q, q < nPl R.2.2.2.1 → τ.1 b q = nI (enc (grpC R (pl R.2.2.2.1) (fun x => pl R.2.2.2.1 x.1 = q) L (p + 1) 0))) → V mX4_goOn (D + 4) 80 [some (.ref 38), some (.ref r), some (.ref a), some (.ref b), some (.int (nI (nPl R.2.2.2.1))), some (.int (nI p)), x6, x7] [] τ Q := by
        intro τ x6 x7 hF g1
        refine v_iinc dX4_goOn_80 rfl (Nat.le_of_ble_eq_true rfl) rfl ?_
        refine v_goto dX4_goOn_83 ?_
        rw [nI_1]
        exact ih (p + 1) τ x6 x7 (by omega) hF g1
      have keys : ¬ (grp R.2.2.2.1 L p).length = 0 → ∀ i k τ, k + i = R.2.2.2.2.length → PFr b σ τ → (∀ q, q < nPl R.2.2.2.1 → τ.1 b q = nI (enc (grpC R (pl R.2.2.2.1) (fun x => pl R.2.2.2.1 x.1 = q) L p k))) → V mX4_goOn (D + 4) 39 [some (.ref 38), some (.ref r), some (.ref a), some (.ref b), some (.int (nI (nPl R.2.2.2.1))), some (.int (nI p)), some (.int (nI (ps (stAt R.2.2.2.1 p)))), some (.int (nI k))] [] τ Q := by
        intro hne i
        have hst : ∀ x ∈ L, pl R.2.2.2.1 x.1 = p → stAt R.2.2.2.1 p = x.1 := fun x hx h => by rw [← h]; exact stAt_pl hm (hL x hx)
        have hvs : vS R.2.2.2.1 (stAt R.2.2.2.1 p) := by
          unfold grp at hne
          rw [List.length_map] at hne
          obtain ⟨x, hx⟩ := List.exists_mem_of_length_pos (Nat.pos_of_ne_zero hne)
          obtain ⟨h1, h2⟩ := List.mem_filter.mp hx
          rw [hst x h1 (by simpa using h2)]
          exact hL x h1
        induction i with
        | zero =>
          intro k τ hk hF g1
          obtain rfl : k = R.2.2.2.2.length := by omega
          have hRR := hRt τ hF
          refine v_iload dX4_goOn_39 rfl ?_
          refine v_aload_n dX4_goOn_41 rfl ?_
          refine v_getI dX4_goOn_42 fl_RX4_74 hr.lay ?_
          rw [hRR.2.2.2.2.1]
          refine v_icmp_ge dX4_goOn_45 (fun zc45 => ?_) (fun zc45 => ?_)
          · exact away τ _ _ hF (fun q hq => by rw [g1 q hq, grpC_K])
          · exact absurd (nI_le (Nat.le_refl _) (by omega)) zc45
        | succ i ihk =>
          intro k τ hk hF g1
          have hRR := hRt τ hF
          have hk2 : k < R.2.2.2.2.length := by omega
          have hpa := hat τ hF p hp2
          have hky : R.2.2.2.2[k]? = some (R.2.2.2.2.getD k (0, 0, 0, 0)) := by rw [List.getD, List.getElem?_eq_getElem hk2]; rfl
          have hnv := nx_v hv hk2 hvs
          have hq0 := pl_lt hm hnv
          have hqq : ∀ y ∈ stkT R L, pl R.2.2.2.1 y.1.1 = p → y.2 = k → pl R.2.2.2.1 (stkN R y).1 = pl R.2.2.2.1 (nx R (stAt R.2.2.2.1 p) k) := fun y hy h1 h2 => by rw [hst _ (mem_stkT.mp hy).1 h1, ← h2]; rfl
          obtain ⟨j1, j2⟩ := grpC_eq (f := pl R.2.2.2.1) (p := p) (c := fun x => pl R.2.2.2.1 x.1 = pl R.2.2.2.1 (nx R (stAt R.2.2.2.1 p) k)) (d := fun x => pl R.2.2.2.1 x.1 = p) hk2 (fun y hy h2 => ⟨fun h => h.1, fun h => ⟨h, hqq y hy h h2⟩⟩)
          have hgt := hgT (pl R.2.2.2.1 (nx R (stAt R.2.2.2.1 p) k)) p (k + 1)
          refine v_iload dX4_goOn_39 rfl ?_
          refine v_aload_n dX4_goOn_41 rfl ?_
          refine v_getI dX4_goOn_42 fl_RX4_74 hr.lay ?_
          rw [hRR.2.2.2.2.1]
          refine v_icmp_ge dX4_goOn_45 (fun zc45 => ?_) (fun zc45 => ?_)
          · exact absurd zc45 (nI_ge (by omega) (by omega))
          · refine v_aload_n dX4_goOn_48 rfl ?_
            refine v_aload_n dX4_goOn_49 rfl ?_
            refine v_aload_n dX4_goOn_50 rfl ?_
            refine v_aload_n dX4_goOn_51 rfl ?_
            refine v_iload dX4_goOn_52 rfl ?_
            refine v_iload dX4_goOn_54 rfl ?_
            refine v_callV2 dX4_goOn_56 mv_RX4_77 hr.lay rfl (Nat.le_of_ble_eq_true rfl) ?_
            refine ok_afterStroke hr hRR (show 8 ≤ 9 by decide) hv hvs hky ?_
            rw [show rk_str R (stAt R.2.2.2.1 p) (R.2.2.2.2.getD k (0, 0, 0, 0)) = nx R (stAt R.2.2.2.1 p) k from rfl]
            show V _ _ _ _ (_ :: _) _ _
            refine v_callV1 dX4_goOn_59 mv_RX4_40 hr.lay rfl (Nat.le_of_ble_eq_true rfl) ?_
            refine ok_placeOf hr hRR.2.2.2.1 hm2 hnv ?_
            show V _ _ _ _ (_ :: _) _ _
            refine v_aload_n dX4_goOn_62 rfl ?_
            refine v_iload dX4_goOn_63 rfl ?_
            refine v_iaload dX4_goOn_65 ha.lay (by exact vp_in_nI (by omega) (by omega)) ?_
            rw [nI_clamp (by omega), hpa]
            refine v_iconst dX4_goOn_66 ?_
            refine v_iload dX4_goOn_67 rfl ?_
            refine v_ishl dX4_goOn_69 ?_
            refine v_ior dX4_goOn_70 ?_
            rw [sh1 (by omega), nb_or, enc_or (by omega) hne]
            refine v_callV3 dX4_goOn_71 mv_RX4_80 rfl rfl (Nat.le_of_ble_eq_true rfl) ?_
            refine ok_join hb (by omega) (g1 _ hq0) (by rw [List.length_map]; exact hne) j1 j2 hgt ?_
            show V _ _ _ _ _ _ _
            refine v_iinc dX4_goOn_74 rfl (Nat.le_of_ble_eq_true rfl) rfl ?_
            refine v_goto dX4_goOn_77 ?_
            rw [nI_1]
            refine ihk (k + 1) _ (by omega) hF.set (fun q hq => ?_)
            by_cases h : q = pl R.2.2.2.1 (nx R (stAt R.2.2.2.1 p) k)
            · rw [h, setI_same]
            · rw [setI_ne (by omega), g1 q hq, grpC_ne (fun y hy h1 h2 h3 => h (by rw [← h3]; exact hqq y hy h1 h2))]
      refine v_iload dX4_goOn_14 rfl ?_
      refine v_iload dX4_goOn_16 rfl ?_
      refine v_icmp_ge dX4_goOn_18 (fun zc18 => ?_) (fun zc18 => ?_)
      · exact absurd zc18 (nI_ge (by omega) (by omega))
      · refine v_aload_n dX4_goOn_21 rfl ?_
        refine v_iload dX4_goOn_22 rfl ?_
        refine v_iaload dX4_goOn_24 ha.lay (by exact vp_in_nI (by omega) (by omega)) ?_
        rw [nI_clamp (by omega), hpa]
        refine v_if_eq dX4_goOn_25 (fun zc25 => ?_) (fun zc25 => ?_)
        · have hz : (grp R.2.2.2.1 L p).length = 0 := by rw [show (0 : Int32) = nI 0 from rfl, nI_eq (by omega) (by omega)] at zc25; exact enc_0.mp zc25
          have hnone : ∀ x ∈ L, ¬ pl R.2.2.2.1 x.1 = p := fun x hx h => by
            unfold grp at hz
            rw [List.length_map] at hz
            have := List.filter_eq_nil_iff.mp (List.length_eq_zero_iff.mp hz) x hx
            exact this (by simpa using h)
          exact away τ _ _ hF (fun q hq => by rw [g1 q hq, grpC_skip (fun y hy h1 => absurd h1 (hnone y.1 (mem_stkT.mp hy).1))])
        · have hz : ¬ (grp R.2.2.2.1 L p).length = 0 := fun h => zc25 (by rw [enc_0.mpr h]; rfl)
          refine v_aload_n dX4_goOn_28 rfl ?_
          refine v_iload dX4_goOn_29 rfl ?_
          refine v_callV1 dX4_goOn_31 mv_RX4_71 hr.lay rfl (Nat.le_of_ble_eq_true rfl) ?_
          refine ok_stateAt hr (hRt τ hF).2.2.2.1 hm hm2 (by omega) (nPl_w hm hp2) ?_
          show V _ _ _ _ (_ :: _) _ _
          refine v_istore dX4_goOn_34 (Nat.le_of_ble_eq_true rfl) rfl ?_
          refine v_iconst dX4_goOn_36 ?_
          refine v_istore dX4_goOn_37 (Nat.le_of_ble_eq_true rfl) rfl ?_
          exact keys hz R.2.2.2.2.length 0 τ (by omega) hF g1
  refine ok_enter rfl (Nat.le_of_ble_eq_true rfl) ?_
  refine v_aload_n dX4_goOn_0 rfl ?_
  refine v_callV0 dX4_goOn_1 mv_RX4_61 hr.lay rfl (Nat.le_of_ble_eq_true rfl) ?_
  refine ok_places hr hR.2.2.2.1 ?_
  show V _ _ _ _ (_ :: _) _ _
  refine v_aload_n dX4_goOn_4 rfl ?_
  refine v_alen dX4_goOn_5 ha.lay (Nat.le_of_ble_eq_true rfl) rfl ?_
  rw [iz_nI, show (Int32.ofNat 60200) = iz 60200 from rfl]
  refine v_callS2 dX4_goOn_6 ms_RX4_65 (Nat.le_of_ble_eq_true rfl) ?_
  refine ok_min (by omega) (by omega) (by omega) (by omega) ?_
  rw [show min ((nPl R.2.2.2.1 : Nat) : Int) 60200 = ((nPl R.2.2.2.1 : Nat) : Int) by omega, ← iz_nI]
  show V _ _ _ _ (_ :: _) _ _
  refine v_istore dX4_goOn_9 (Nat.le_of_ble_eq_true rfl) rfl ?_
  refine v_iconst dX4_goOn_11 ?_
  refine v_istore dX4_goOn_12 (Nat.le_of_ble_eq_true rfl) rfl ?_
  exact loop (nPl R.2.2.2.1) 0 σ _ _ (by omega) PFr.rf (fun q hq => by rw [hb1 q hq, grpC_0]; rfl)
end CPa
