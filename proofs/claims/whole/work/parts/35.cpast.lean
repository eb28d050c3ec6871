/-! ===== what can have been struck: the class ===== -/
def PFr (b : Nat) (σ τ : Wd) : Prop := (∀ a c, a ≠ b → τ.1 a c = σ.1 a c) ∧ τ.2 = σ.2
section CPa
variable {D : Nat} {σ τ : Wd} {Q : Option Value → Wd → Prop} {R : Rk} {s : St} {r n : Nat}
theorem sh1 {k : Nat} (h : k < 9) : (1 : Int32) <<< (nI k &&& 31) = nI (2 ^ k) := by
  have : ∀ k, k < 9 → (1 : Int32) <<< (nI k &&& 31) = nI (2 ^ k) := by decide +kernel
  exact this k h
def vIsQ (b : Nat) : Prop := b = 24 ∨ b = 25
theorem vIsQ.lay {b : Nat} (h : vIsQ b) : vm_lay[b]? = some (1, 60200) := by rcases h with rfl | rfl <;> rfl
theorem PFr.rf {b : Nat} : PFr b σ σ := ⟨fun _ _ _ => rfl, rfl⟩
theorem PFr.set {b i : Nat} {x : Int32} (h : PFr b σ τ) : PFr b σ (setI τ b i x) := ⟨fun a c ha => by rw [setI_ne (by omega)]; exact h.1 a c ha, h.2⟩
/-- two groups, one of them not empty, joined -/
theorem ok_join {b q : Nat} {l1 l2 l : List Nat} (hb : vIsQ b) (hq : q < 60200) (h1 : σ.1 b q = nI (enc l1)) (h0 : ¬ l2.length = 0) (hl : l.length = l1.length + l2.length) (ha : andL l = andL l1 &&& andL l2) (hn : l.length ≤ 2097152) (hQ : Q none (setI σ b q (nI (enc l)))) : Ok (D + 1) mX4_join [.ref 38, .ref b, .int (nI q), .int (nI (enc l2))] σ Q := by
  have e1 := enc_le (l := l1)
  have e2 := enc_le (l := l2)
  have d1 := enc_div (l := l1)
  have d2 := enc_div (l := l2)
  have m2 := enc_mod h0
  have hput : ∀ z : Int32, wPut σ b 60200 (nI q) z = setI σ b q z := fun z => by
    unfold wPut
    rw [nI_toInt (by omega), if_pos (by omega)]
    rfl
  refine ok_enter rfl (Nat.le_of_ble_eq_true rfl) ?_
  refine v_aload_n dX4_join_0 rfl ?_
  refine v_iload_n dX4_join_1 rfl ?_
  refine v_callS2 dX4_join_2 ms_RX4_83 (Nat.le_of_ble_eq_true rfl) ?_
  refine ok_at hb.lay (by decide) ?_
  rw [vAt_nI (by omega) (by omega), h1]
  show V _ _ _ _ (_ :: _) _ _
  refine v_istore dX4_join_5 (Nat.le_of_ble_eq_true rfl) rfl ?_
  refine v_iload dX4_join_7 rfl ?_
  refine v_if_ne dX4_join_9 (fun zc9 => ?_) (fun zc9 => ?_)
  · rw [show (0 : Int32) = nI 0 from rfl, nI_eq (by omega) (by omega)] at zc9
    refine v_iload dX4_join_21 rfl ?_
    refine v_bipush dX4_join_23 ?_
    refine v_ishr dX4_join_25 ?_
    refine v_iload_n dX4_join_26 rfl ?_
    refine v_bipush dX4_join_27 ?_
    refine v_ishr dX4_join_29 ?_
    refine v_iadd dX4_join_30 ?_
    refine v_istore dX4_join_31 (Nat.le_of_ble_eq_true rfl) rfl ?_
    refine v_aload_n dX4_join_33 rfl ?_
    refine v_iload_n dX4_join_34 rfl ?_
    refine v_iload dX4_join_35 rfl ?_
    refine v_bipush dX4_join_37 ?_
    refine v_ishl dX4_join_39 ?_
    refine v_iload dX4_join_40 rfl ?_
    refine v_iload_n dX4_join_42 rfl ?_
    refine v_iand dX4_join_43 ?_
    refine v_sipush dX4_join_44 ?_
    refine v_iand dX4_join_47 ?_
    refine v_ior dX4_join_48 ?_
    rw [pk_shrN (by omega) _ 8 rfl, pk_shrN (by omega) _ 8 rfl, show (2 : Nat) ^ 8 = 256 from rfl, d1, d2, nI_add, pk_shlN _ 8 rfl (by omega), nb_and, pk_andN (Nat.lt_of_le_of_lt Nat.and_le_left (by omega)) (m := 255) 8 rfl, Nat.mul_comm, nb_add 8 (Nat.mod_lt _ (by decide)), Nat.and_mod_two_pow]
    refine v_callS3 dX4_join_49 ms_RX4_46 (Nat.le_of_ble_eq_true rfl) ?_
    refine ok_put hb.lay (by decide) ?_
    rw [hput]
    show V _ _ _ _ _ _ _
    refine v_return dX4_join_52 rfl ?_
    first | (have z1 : l1.length = 0 := enc_0.mp zc9; have e : enc l2 = enc l := (by unfold enc; rw [hl, z1, ha, List.length_eq_zero_iff.mp z1, show andL [] = 255 from rfl, Nat.and_comm, and_self255 (andL_lt _), Nat.zero_add]); rw [e]; exact hQ) | (have z1 : ¬ l1.length = 0 := fun h => zc9 (enc_0.mpr h); have e : 2 ^ 8 * (l1.length + l2.length) + (enc l1 % 2 ^ 8 &&& enc l2 % 2 ^ 8) = enc l := (by rw [show (2 : Nat) ^ 8 = 256 from rfl, enc_mod z1, m2, ← ha, ← hl]; unfold enc; rw [if_neg (by omega)]); rw [e]; exact hQ)
  · rw [show (0 : Int32) = nI 0 from rfl, nI_eq (by omega) (by omega)] at zc9
    refine v_aload_n dX4_join_12 rfl ?_
    refine v_iload_n dX4_join_13 rfl ?_
    refine v_iload_n dX4_join_14 rfl ?_
    refine v_callS3 dX4_join_15 ms_RX4_46 (Nat.le_of_ble_eq_true rfl) ?_
    refine ok_put hb.lay (by decide) ?_
    rw [hput]
    show V _ _ _ _ _ _ _
    refine v_goto dX4_join_18 ?_
    refine v_return dX4_join_52 rfl ?_
    first | (have z1 : l1.length = 0 := enc_0.mp zc9; have e : enc l2 = enc l := (by unfold enc; rw [hl, z1, ha, List.length_eq_zero_iff.mp z1, show andL [] = 255 from rfl, Nat.and_comm, and_self255 (andL_lt _), Nat.zero_add]); rw [e]; exact hQ) | (have z1 : ¬ l1.length = 0 := fun h => zc9 (enc_0.mpr h); have e : 2 ^ 8 * (l1.length + l2.length) + (enc l1 % 2 ^ 8 &&& enc l2 % 2 ^ 8) = enc l := (by rw [show (2 : Nat) ^ 8 = 256 from rfl, enc_mod z1, m2, ← ha, ← hl]; unfold enc; rw [if_neg (by omega)]); rw [e]; exact hQ)
theorem nPl_w {m p : Nat} (hm : 0 < m) (hp : p < nPl m) : p / 2 / m < 1 + 3 * m := by
  rw [Nat.div_lt_iff_lt_mul hm, Nat.div_lt_iff_lt_mul (by decide)]
  unfold nPl at hp
  rw [Nat.mul_comm (1 + 3 * m) m, Nat.mul_comm _ 2, ← Nat.mul_assoc]
  exact hp
theorem ok_pgoOn {a b : Nat} {L : List RS} (hr : vIsR r) (hR : RepR σ r R) (hv : vR 8 R) (hm : 0 < R.2.2.2.1) (ha : vIsQ a) (hb : vIsQ b) (hab : a ≠ b) (hL : ∀ x ∈ L, vS R.2.2.2.1 x.1) (hn : L.length * R.2.2.2.2.length ≤ 2097152) (hn8 : L.length ≤ 2097152)
    (ha1 : ∀ q, q < nPl R.2.2.2.1 → σ.1 a q = nI (enc (grp R.2.2.2.1 L q))) (hb1 : ∀ q, q < nPl R.2.2.2.1 → σ.1 b q = 0)
    (hQ : ∀ τ, PFr b σ τ → (∀ q, q < nPl R.2.2.2.1 → τ.1 b q = nI (enc (grp R.2.2.2.1 ((stkT R L).map (stkN R)) q))) → Q none τ) : Ok (D + 4) mX4_goOn [.ref 38, .ref r, .ref a, .ref b] σ Q := by
  have hm2 := hv.m100
  have hnk := hv.n9
  have hN := nPl_le hm2
  have hr12 : r + 4 < 13 ∧ 3 ≤ r := by rcases hr with rfl | rfl <;> omega
  have hb2 : b = 24 ∨ b = 25 := hb
  have ha2 : a = 24 ∨ a = 25 := ha
  have hRt : ∀ τ, PFr b σ τ → RepR τ r R := fun τ h => hR.kept (fun x y q1 q2 => h.1 _ _ (by omega))
  have hat : ∀ τ, PFr b σ τ → ∀ q, q < nPl R.2.2.2.1 → τ.1 a q = nI (enc (grp R.2.2.2.1 L q)) := fun τ h q hq => by rw [h.1 _ _ hab]; exact ha1 q hq
  have hgl : ∀ q, (grp R.2.2.2.1 L q).length ≤ L.length := fun q => by unfold grp; rw [List.length_map]; exact List.length_filter_le _ _
  have hgT : ∀ q p k, (grpC R (pl R.2.2.2.1) (fun x => pl R.2.2.2.1 x.1 = q) L p k).length ≤ 2097152 := fun q p k => Nat.le_trans grpC_len hn
  have hpl : ∀ x ∈ L, pl R.2.2.2.1 x.1 < nPl R.2.2.2.1 := fun x hx => pl_lt hm (hL x hx)
  have fin : ∀ τ x6 x7, PFr b σ τ → (∀ q, q < nPl R.2.2.2.1 → τ.1 b q = nI (enc (grpC R (pl R.2.2.2.1) (fun x => pl R.2.2.2.1 x.1 = q) L (nPl R.2.2.2.1) 0))) → V mX4_goOn (D + 4) 14 [some (.ref 38), some (.ref r), some (.ref a), some (.ref b), some (.int (nI (nPl R.2.2.2.1))), some (.int (nI (nPl R.2.2.2.1))), x6, x7] [] τ Q := by
    intro τ x6 x7 hF g1
    refine v_iload dX4_goOn_14 rfl ?_
    refine v_iload dX4_goOn_16 rfl ?_
    refine v_icmp_ge dX4_goOn_18 (fun zc18 => ?_) (fun zc18 => ?_)
    · refine v_return dX4_goOn_86 rfl ?_
      exact hQ τ hF (fun q hq => by rw [g1 q hq, grpC_end hpl]; rfl)
    · exact absurd (nI_le (Nat.le_refl _) (by omega)) zc18
  have loop : ∀ j p τ x6 x7, p + j = nPl R.2.2.2.1 → PFr b σ τ → (∀ q, q < nPl R.2.2.2.1 → τ.1 b q = nI (enc (grpC R (pl R.2.2.2.1) (fun x => pl R.2.2.2.1 x.1 = q) L p 0))) → V mX4_goOn (D + 4) 14 [some (.ref 38), some (.ref r), some (.ref a), some (.ref b), some (.int (nI (nPl R.2.2.2.1))), some (.int (nI p)), x6, x7] [] τ Q := by
    intro j
    induction j with
    | zero =>
      intro p τ x6 x7 hp hF g1
      obtain rfl : p = nPl R.2.2.2.1 := by omega
      exact fin τ x6 x7 hF g1
    | succ j ih =>
      intro p τ x6 x7 hp hF g1
      have hp2 : p < nPl R.2.2.2.1 := by omega
      have hpa := hat τ hF p hp2
      have hgp := hgl p
      have hle := enc_le (l := grp R.2.2.2.1 L p)
      have away : ∀ τ x6 x7, PFr b σ τ → (∀ q, q < nPl R.2.2.2.1 → τ.1 b q = nI (enc (grpC R (pl R.2.2.2.1) (fun x => pl R.2.2.2.1 x.1 = q) L (p + 1) 0))) → V mX4_goOn (D + 4) 80 [some (.ref 38), some (.ref r), some (.ref a), some (.ref b), some (.int (nI (nPl R.2.2.2.1))), some (.int (nI p)), x6, x7] [] τ Q := by
        intro τ x6 x7 hF g1
        refine v_iinc dX4_goOn_80 rfl (Nat.le_of_ble_eq_true rfl) rfl ?_
        refine v_goto dX4_goOn_83 ?_
        rw [nI_1]
        exact ih (p + 1) τ x6 x7 (by omega) hF g1
      have keys : ¬ (grp R.2.2.2.1 L p).length = 0 → ∀ i k τ, k + i = R.2.2.2.2.length → PFr b σ τ → (∀ q, q < nPl R.2.2.2.1 → τ.1 b q = nI (enc (grpC R (pl R.2.2.2.1) (fun x => pl R.2.2.2.1 x.1 = q) L p k))) → V mX4_goOn (D + 4) 39 [some (.ref 38), some (.ref r), some (.ref a), some (.ref b), some (.int (nI (nPl R.2.2.2.1))), some (.int (nI p)), some (.int (nI (ps (stAt R.2.2.2.1 p)))), some (.int (nI k))] [] τ Q := by
        intro hne i
        have hst : ∀ x ∈ L, pl R.2.2.2.1 x.1 = p → stAt R.2.2.2.1 p = x.1 := fun x hx h => by rw [← h]; exact stAt_pl hm (hL x hx)
        have hvs : vS R.2.2.2.1 (stAt R.2.2.2.1 p) := by
          unfold grp at hne
          rw [List.length_map] at hne
          obtain ⟨x, hx⟩ := List.exists_mem_of_length_pos (Nat.pos_of_ne_zero hne)
          obtain ⟨h1, h2⟩ := List.mem_filter.mp hx
          rw [hst x h1 (by simpa using h2)]
          exact hL x h1
        induction i with
        | zero =>
          intro k τ hk hF g1
          obtain rfl : k = R.2.2.2.2.length := by omega
          have hRR := hRt τ hF
          refine v_iload dX4_goOn_39 rfl ?_
          refine v_aload_n dX4_goOn_41 rfl ?_
          refine v_getI dX4_goOn_42 fl_RX4_74 hr.lay ?_
          rw [hRR.2.2.2.2.1]
          refine v_icmp_ge dX4_goOn_45 (fun zc45 => ?_) (fun zc45 => ?_)
          · exact away τ _ _ hF (fun q hq => by rw [g1 q hq, grpC_K])
          · exact absurd (nI_le (Nat.le_refl _) (by omega)) zc45
        | succ i ihk =>
          intro k τ hk hF g1
          have hRR := hRt τ hF
          have hk2 : k < R.2.2.2.2.length := by omega
          have hpa := hat τ hF p hp2
          have hky : R.2.2.2.2[k]? = some (R.2.2.2.2.getD k (0, 0, 0, 0)) := by rw [List.getD, List.getElem?_eq_getElem hk2]; rfl
          have hnv := nx_v hv hk2 hvs
          have hq0 := pl_lt hm hnv
          have hqq : ∀ y ∈ stkT R L, pl R.2.2.2.1 y.1.1 = p → y.2 = k → pl R.2.2.2.1 (stkN R y).1 = pl R.2.2.2.1 (nx R (stAt R.2.2.2.1 p) k) := fun y hy h1 h2 => by rw [hst _ (mem_stkT.mp hy).1 h1, ← h2]; rfl
          obtain ⟨j1, j2⟩ := grpC_eq (f := pl R.2.2.2.1) (p := p) (c := fun x => pl R.2.2.2.1 x.1 = pl R.2.2.2.1 (nx R (stAt R.2.2.2.1 p) k)) (d := fun x => pl R.2.2.2.1 x.1 = p) hk2 (fun y hy h2 => ⟨fun h => h.1, fun h => ⟨h, hqq y hy h h2⟩⟩)
          have hgt := hgT (pl R.2.2.2.1 (nx R (stAt R.2.2.2.1 p) k)) p (k + 1)
          refine v_iload dX4_goOn_39 rfl ?_
          refine v_aload_n dX4_goOn_41 rfl ?_
          refine v_getI dX4_goOn_42 fl_RX4_74 hr.lay ?_
          rw [hRR.2.2.2.2.1]
          refine v_icmp_ge dX4_goOn_45 (fun zc45 => ?_) (fun zc45 => ?_)
          · exact absurd zc45 (nI_ge (by omega) (by omega))
          · refine v_aload_n dX4_goOn_48 rfl ?_
            refine v_aload_n dX4_goOn_49 rfl ?_
            refine v_aload_n dX4_goOn_50 rfl ?_
            refine v_aload_n dX4_goOn_51 rfl ?_
            refine v_iload dX4_goOn_52 rfl ?_
            refine v_iload dX4_goOn_54 rfl ?_
            refine v_callV2 dX4_goOn_56 mv_RX4_77 hr.lay rfl (Nat.le_of_ble_eq_true rfl) ?_
            refine ok_afterStroke hr hRR (show 8 ≤ 9 by decide) hv hvs hky ?_
            rw [show rk_str R (stAt R.2.2.2.1 p) (R.2.2.2.2.getD k (0, 0, 0, 0)) = nx R (stAt R.2.2.2.1 p) k from rfl]
            show V _ _ _ _ (_ :: _) _ _
            refine v_callV1 dX4_goOn_59 mv_RX4_40 hr.lay rfl (Nat.le_of_ble_eq_true rfl) ?_
            refine ok_placeOf hr hRR.2.2.2.1 hm2 hnv ?_
            show V _ _ _ _ (_ :: _) _ _
            refine v_aload_n dX4_goOn_62 rfl ?_
            refine v_iload dX4_goOn_63 rfl ?_
            refine v_iaload dX4_goOn_65 ha.lay (by exact vp_in_nI (by omega) (by omega)) ?_
            rw [nI_clamp (by omega), hpa]
            refine v_iconst dX4_goOn_66 ?_
            refine v_iload dX4_goOn_67 rfl ?_
            refine v_ishl dX4_goOn_69 ?_
            refine v_ior dX4_goOn_70 ?_
            rw [sh1 (by omega), nb_or, enc_or (by omega) hne]
            refine v_callV3 dX4_goOn_71 mv_RX4_80 rfl rfl (Nat.le_of_ble_eq_true rfl) ?_
            refine ok_join hb (by omega) (g1 _ hq0) (by rw [List.length_map]; exact hne) j1 j2 hgt ?_
            show V _ _ _ _ _ _ _
            refine v_iinc dX4_goOn_74 rfl (Nat.le_of_ble_eq_true rfl) rfl ?_
            refine v_goto dX4_goOn_77 ?_
            rw [nI_1]
            refine ihk (k + 1) _ (by omega) hF.set (fun q hq => ?_)
            by_cases h : q = pl R.2.2.2.1 (nx R (stAt R.2.2.2.1 p) k)
            · rw [h, setI_same]
            · rw [setI_ne (by omega), g1 q hq, grpC_ne (fun y hy h1 h2 h3 => h (by rw [← h3]; exact hqq y hy h1 h2))]
      refine v_iload dX4_goOn_14 rfl ?_
      refine v_iload dX4_goOn_16 rfl ?_
      refine v_icmp_ge dX4_goOn_18 (fun zc18 => ?_) (fun zc18 => ?_)
      · exact absurd zc18 (nI_ge (by omega) (by omega))
      · refine v_aload_n dX4_goOn_21 rfl ?_
        refine v_iload dX4_goOn_22 rfl ?_
        refine v_iaload dX4_goOn_24 ha.lay (by exact vp_in_nI (by omega) (by omega)) ?_
        rw [nI_clamp (by omega), hpa]
        refine v_if_eq dX4_goOn_25 (fun zc25 => ?_) (fun zc25 => ?_)
        · have hz : (grp R.2.2.2.1 L p).length = 0 := by rw [show (0 : Int32) = nI 0 from rfl, nI_eq (by omega) (by omega)] at zc25; exact enc_0.mp zc25
          have hnone : ∀ x ∈ L, ¬ pl R.2.2.2.1 x.1 = p := fun x hx h => by
            unfold grp at hz
            rw [List.length_map] at hz
            have := List.filter_eq_nil_iff.mp (List.length_eq_zero_iff.mp hz) x hx
            exact this (by simpa using h)
          exact away τ _ _ hF (fun q hq => by rw [g1 q hq, grpC_skip (fun y hy h1 => absurd h1 (hnone y.1 (mem_stkT.mp hy).1))])
        · have hz : ¬ (grp R.2.2.2.1 L p).length = 0 := fun h => zc25 (by rw [enc_0.mpr h]; rfl)
          refine v_aload_n dX4_goOn_28 rfl ?_
          refine v_iload dX4_goOn_29 rfl ?_
          refine v_callV1 dX4_goOn_31 mv_RX4_71 hr.lay rfl (Nat.le_of_ble_eq_true rfl) ?_
          refine ok_stateAt hr (hRt τ hF).2.2.2.1 hm hm2 (by omega) (nPl_w hm hp2) ?_
          show V _ _ _ _ (_ :: _) _ _
          refine v_istore dX4_goOn_34 (Nat.le_of_ble_eq_true rfl) rfl ?_
          refine v_iconst dX4_goOn_36 ?_
          refine v_istore dX4_goOn_37 (Nat.le_of_ble_eq_true rfl) rfl ?_
          exact keys hz R.2.2.2.2.length 0 τ (by omega) hF g1
  refine ok_enter rfl (Nat.le_of_ble_eq_true rfl) ?_
  refine v_aload_n dX4_goOn_0 rfl ?_
  refine v_callV0 dX4_goOn_1 mv_RX4_61 hr.lay rfl (Nat.le_of_ble_eq_true rfl) ?_
  refine ok_places hr hR.2.2.2.1 ?_
  show V _ _ _ _ (_ :: _) _ _
  refine v_aload_n dX4_goOn_4 rfl ?_
  refine v_alen dX4_goOn_5 ha.lay (Nat.le_of_ble_eq_true rfl) rfl ?_
  rw [iz_nI (nPl R.2.2.2.1), show (Int32.ofNat 60200) = iz 60200 from rfl]
  refine v_callS2 dX4_goOn_6 ms_RX4_65 (Nat.le_of_ble_eq_true rfl) ?_
  refine ok_min (by omega) (by omega) (by omega) (by omega) ?_
  rw [show min ((nPl R.2.2.2.1 : Nat) : Int) 60200 = ((nPl R.2.2.2.1 : Nat) : Int) by omega, ← iz_nI]
  show V _ _ _ _ (_ :: _) _ _
  refine v_istore dX4_goOn_9 (Nat.le_of_ble_eq_true rfl) rfl ?_
  refine v_iconst dX4_goOn_11 ?_
  refine v_istore dX4_goOn_12 (Nat.le_of_ble_eq_true rfl) rfl ?_
  exact loop (nPl R.2.2.2.1) 0 σ _ _ (by omega) PFr.rf (fun q hq => by rw [hb1 q hq, grpC_0]; rfl)
theorem ok_countLast {a g : Nat} {L : List RS} (hr : vIsR r) (hR : RepR σ r R) (hv : vR 8 R) (hm : 0 < R.2.2.2.1) (ha : vIsQ a) (hg : g < 100) (hL : ∀ x ∈ L, vS R.2.2.2.1 x.1) (hn : L.length * R.2.2.2.2.length ≤ 16777216) (hn8 : L.length ≤ 2097152)
    (ha1 : ∀ q, q < nPl R.2.2.2.1 → σ.1 a q = nI (enc (grp R.2.2.2.1 L q))) (h1 : σ.1 38 1 = 0) (h2 : σ.1 38 2 = 255)
    (hQ : ∀ τ, PFr 38 σ τ → τ.1 38 1 = nI (((stkT R L).map (stkN R)).filter (fun x => decide (x.1.1 = g))).length → τ.1 38 2 = nI (if (((stkT R L).map (stkN R)).filter (fun x => decide (x.1.1 = g))).length = 0 then 0 else andL ((((stkT R L).map (stkN R)).filter (fun x => decide (x.1.1 = g))).map Prod.snd)) → Q none τ) : Ok (D + 4) mX4_countLast [.ref 38, .ref r, .ref a, .int (nI g)] σ Q := by
  have hm2 := hv.m100
  have hnk := hv.n9
  have hN := nPl_le hm2
  have hr12 : r + 4 < 13 ∧ 3 ≤ r := by rcases hr with rfl | rfl <;> omega
  have ha2 : a = 24 ∨ a = 25 := ha
  have hRt : ∀ τ, PFr 38 σ τ → RepR τ r R := fun τ h => hR.kept (fun x y q1 q2 => h.1 _ _ (by omega))
  have hat : ∀ τ, PFr 38 σ τ → ∀ q, q < nPl R.2.2.2.1 → τ.1 a q = nI (enc (grp R.2.2.2.1 L q)) := fun τ h q hq => by rw [h.1 _ _ (by omega)]; exact ha1 q hq
  have hgl : ∀ q, (grp R.2.2.2.1 L q).length ≤ L.length := fun q => by unfold grp; rw [List.length_map]; exact List.length_filter_le _ _
  have hgT : ∀ p k, (grpC R (pl R.2.2.2.1) (fun x => x.1.1 = g) L p k).length ≤ 16777216 := fun p k => Nat.le_trans grpC_len hn
  have hpl : ∀ x ∈ L, pl R.2.2.2.1 x.1 < nPl R.2.2.2.1 := fun x hx => pl_lt hm (hL x hx)
  have fin : ∀ τ x6 x7, PFr 38 σ τ → τ.1 38 1 = nI (grpC R (pl R.2.2.2.1) (fun x => x.1.1 = g) L (nPl R.2.2.2.1) 0).length → τ.1 38 2 = nI (andL (grpC R (pl R.2.2.2.1) (fun x => x.1.1 = g) L (nPl R.2.2.2.1) 0)) → V mX4_countLast (D + 4) 14 [some (.ref 38), some (.ref r), some (.ref a), some (.int (nI g)), some (.int (nI (nPl R.2.2.2.1))), some (.int (nI (nPl R.2.2.2.1))), x6, x7] [] τ Q := by
    intro τ x6 x7 hF g1 g2
    have hle := hgT (nPl R.2.2.2.1) 0
    rw [grpC_end hpl] at g1 g2 hle
    rw [List.length_map] at g1 hle
    refine v_iload dX4_countLast_14 rfl ?_
    refine v_iload dX4_countLast_16 rfl ?_
    refine v_icmp_ge dX4_countLast_18 (fun zc18 => ?_) (fun zc18 => ?_)
    · refine v_aload_n dX4_countLast_109 rfl ?_
      refine v_getI dX4_countLast_110 fl_RX4_9 rfl ?_
      rw [g1]
      refine v_if_ne dX4_countLast_113 (fun zc113 => ?_) (fun zc113 => ?_)
      · rw [show (0 : Int32) = nI 0 from rfl, nI_eq (by omega) (by omega)] at zc113
        refine v_return dX4_countLast_121 rfl ?_
        first | (exact hQ τ hF g1 (by rw [if_neg zc113]; exact g2)) | (exact hQ _ hF.set (by rw [setI_ne (by omega)]; exact g1) (by rw [if_pos zc113, setI_same]; rfl))
      · rw [show (0 : Int32) = nI 0 from rfl, nI_eq (by omega) (by omega)] at zc113
        refine v_aload_n dX4_countLast_116 rfl ?_
        refine v_iconst dX4_countLast_117 ?_
        refine v_putI dX4_countLast_118 fp_RX4_15 rfl ?_
        refine v_return dX4_countLast_121 rfl ?_
        first | (exact hQ τ hF g1 (by rw [if_neg zc113]; exact g2)) | (exact hQ _ hF.set (by rw [setI_ne (by omega)]; exact g1) (by rw [if_pos zc113, setI_same]; rfl))
    · exact absurd (nI_le (Nat.le_refl _) (by omega)) zc18
  have loop : ∀ j p τ x6 x7, p + j = nPl R.2.2.2.1 → PFr 38 σ τ → τ.1 38 1 = nI (grpC R (pl R.2.2.2.1) (fun x => x.1.1 = g) L p 0).length → τ.1 38 2 = nI (andL (grpC R (pl R.2.2.2.1) (fun x => x.1.1 = g) L p 0)) → V mX4_countLast (D + 4) 14 [some (.ref 38), some (.ref r), some (.ref a), some (.int (nI g)), some (.int (nI (nPl R.2.2.2.1))), some (.int (nI p)), x6, x7] [] τ Q := by
    intro j
    induction j with
    | zero =>
      intro p τ x6 x7 hp hF g1 g2
      obtain rfl : p = nPl R.2.2.2.1 := by omega
      exact fin τ x6 x7 hF g1 g2
    | succ j ih =>
      intro p τ x6 x7 hp hF g1 g2
      have hp2 : p < nPl R.2.2.2.1 := by omega
      have hpa := hat τ hF p hp2
      have hgp := hgl p
      have hle := enc_le (l := grp R.2.2.2.1 L p)
      have hdv := enc_div (l := grp R.2.2.2.1 L p)
      have away : ∀ τ x6 x7, PFr 38 σ τ → τ.1 38 1 = nI (grpC R (pl R.2.2.2.1) (fun x => x.1.1 = g) L (p + 1) 0).length → τ.1 38 2 = nI (andL (grpC R (pl R.2.2.2.1) (fun x => x.1.1 = g) L (p + 1) 0)) → V mX4_countLast (D + 4) 103 [some (.ref 38), some (.ref r), some (.ref a), some (.int (nI g)), some (.int (nI (nPl R.2.2.2.1))), some (.int (nI p)), x6, x7] [] τ Q := by
        intro τ x6 x7 hF g1 g2
        refine v_iinc dX4_countLast_103 rfl (Nat.le_of_ble_eq_true rfl) rfl ?_
        refine v_goto dX4_countLast_106 ?_
        rw [nI_1]
        exact ih (p + 1) τ x6 x7 (by omega) hF g1 g2
      have keys : ¬ (grp R.2.2.2.1 L p).length = 0 → ∀ i k τ, k + i = R.2.2.2.2.length → PFr 38 σ τ → τ.1 38 1 = nI (grpC R (pl R.2.2.2.1) (fun x => x.1.1 = g) L p k).length → τ.1 38 2 = nI (andL (grpC R (pl R.2.2.2.1) (fun x => x.1.1 = g) L p k)) → V mX4_countLast (D + 4) 39 [some (.ref 38), some (.ref r), some (.ref a), some (.int (nI g)), some (.int (nI (nPl R.2.2.2.1))), some (.int (nI p)), some (.int (nI (ps (stAt R.2.2.2.1 p)))), some (.int (nI k))] [] τ Q := by
        intro hne i
        have hst : ∀ x ∈ L, pl R.2.2.2.1 x.1 = p → stAt R.2.2.2.1 p = x.1 := fun x hx h => by rw [← h]; exact stAt_pl hm (hL x hx)
        have hvs : vS R.2.2.2.1 (stAt R.2.2.2.1 p) := by
          unfold grp at hne
          rw [List.length_map] at hne
          obtain ⟨x, hx⟩ := List.exists_mem_of_length_pos (Nat.pos_of_ne_zero hne)
          obtain ⟨h1, h2⟩ := List.mem_filter.mp hx
          rw [hst x h1 (by simpa using h2)]
          exact hL x h1
        induction i with
        | zero =>
          intro k τ hk hF g1 g2
          obtain rfl : k = R.2.2.2.2.length := by omega
          have hRR := hRt τ hF
          refine v_iload dX4_countLast_39 rfl ?_
          refine v_aload_n dX4_countLast_41 rfl ?_
          refine v_getI dX4_countLast_42 fl_RX4_74 hr.lay ?_
          rw [hRR.2.2.2.2.1]
          refine v_icmp_ge dX4_countLast_45 (fun zc45 => ?_) (fun zc45 => ?_)
          · exact away τ _ _ hF (by rw [g1, grpC_K]) (by rw [g2, grpC_K])
          · exact absurd (nI_le (Nat.le_refl _) (by omega)) zc45
        | succ i ihk =>
          intro k τ hk hF g1 g2
          have hRR := hRt τ hF
          have hk2 : k < R.2.2.2.2.length := by omega
          have hpa := hat τ hF p hp2
          have hky : R.2.2.2.2[k]? = some (R.2.2.2.2.getD k (0, 0, 0, 0)) := by rw [List.getD, List.getElem?_eq_getElem hk2]; rfl
          have hnv := nx_v hv hk2 hvs
          have hsh := hnv.1
          have hqq : ∀ y ∈ stkT R L, pl R.2.2.2.1 y.1.1 = p → y.2 = k → (stkN R y).1.1 = (nx R (stAt R.2.2.2.1 p) k).1 := fun y hy h1 h2 => by rw [hst _ (mem_stkT.mp hy).1 h1, ← h2]; rfl
          refine v_iload dX4_countLast_39 rfl ?_
          refine v_aload_n dX4_countLast_41 rfl ?_
          refine v_getI dX4_countLast_42 fl_RX4_74 hr.lay ?_
          rw [hRR.2.2.2.2.1]
          refine v_icmp_ge dX4_countLast_45 (fun zc45 => ?_) (fun zc45 => ?_)
          · exact absurd zc45 (nI_ge (by omega) (by omega))
          · refine v_aload_n dX4_countLast_48 rfl ?_
            refine v_iload dX4_countLast_49 rfl ?_
            refine v_iload dX4_countLast_51 rfl ?_
            refine v_callV2 dX4_countLast_53 mv_RX4_77 hr.lay rfl (Nat.le_of_ble_eq_true rfl) ?_
            refine ok_afterStroke hr hRR (show 8 ≤ 9 by decide) hv hvs hky ?_
            rw [show rk_str R (stAt R.2.2.2.1 p) (R.2.2.2.2.getD k (0, 0, 0, 0)) = nx R (stAt R.2.2.2.1 p) k from rfl]
            show V _ _ _ _ (_ :: _) _ _
            refine v_callS1 dX4_countLast_56 ms_RX4_54 (Nat.le_of_ble_eq_true rfl) ?_
            refine ok_shownIn ?_
            rw [ps_sh hm2 hnv]
            show V _ _ _ _ (_ :: _) _ _
            refine v_iload_n dX4_countLast_59 rfl ?_
            refine v_icmp_ne dX4_countLast_60 (fun zc60 => ?_) (fun zc60 => ?_)
            · rw [nI_eq (by omega) (by omega)] at zc60
              refine v_iinc dX4_countLast_97 rfl (Nat.le_of_ble_eq_true rfl) rfl ?_
              refine v_goto dX4_countLast_100 ?_
              rw [nI_1]
              first | (refine ihk (k + 1) _ (by omega) hF (by rw [g1, grpC_ne (fun y hy h1 h2 h3 => zc60 (by rw [← h3]; exact (hqq y hy h1 h2).symm))]) (by rw [g2, grpC_ne (fun y hy h1 h2 h3 => zc60 (by rw [← h3]; exact (hqq y hy h1 h2).symm))]); done) | (obtain ⟨j1, j2⟩ := grpC_eq (R := R) (L := L) (f := pl R.2.2.2.1) (p := p) (c := fun x => x.1.1 = g) (d := fun x => pl R.2.2.2.1 x.1 = p) hk2 (fun y hy h2 => ⟨fun h => h.1, fun h => ⟨h, (hqq y hy h h2).trans zc60⟩⟩); refine ihk (k + 1) _ (by omega) hF.set.set ?_ ?_; (rw [setI_ne (by omega), setI_same, j1, List.length_map]; rfl); (rw [setI_same, j2]; rfl))
            · rw [nI_eq (by omega) (by omega)] at zc60
              refine v_aload_n dX4_countLast_63 rfl ?_
              refine v_dup dX4_countLast_64 rfl ?_
              refine v_getI dX4_countLast_65 fl_RX4_9 rfl ?_
              rw [g1]
              refine v_aload_n dX4_countLast_68 rfl ?_
              refine v_iload dX4_countLast_69 rfl ?_
              refine v_iaload dX4_countLast_71 ha.lay (by exact vp_in_nI (by omega) (by omega)) ?_
              rw [nI_clamp (by omega), hpa]
              refine v_bipush dX4_countLast_72 ?_
              refine v_ishr dX4_countLast_74 ?_
              refine v_iadd dX4_countLast_75 ?_
              rw [pk_shrN (by omega) _ 8 rfl, show (2 : Nat) ^ 8 = 256 from rfl, hdv, nI_add]
              refine v_putI dX4_countLast_76 fp_RX4_9 rfl ?_
              refine v_aload_n dX4_countLast_79 rfl ?_
              refine v_dup dX4_countLast_80 rfl ?_
              refine v_getI dX4_countLast_81 fl_RX4_15 rfl ?_
              rw [setI_ne (by omega), g2]
              refine v_aload_n dX4_countLast_84 rfl ?_
              refine v_iload dX4_countLast_85 rfl ?_
              refine v_iaload dX4_countLast_87 ha.lay (by exact vp_in_nI (by omega) (by omega)) ?_
              rw [nI_clamp (by omega), setI_ne (by omega), hpa]
              refine v_iconst dX4_countLast_88 ?_
              refine v_iload dX4_countLast_89 rfl ?_
              refine v_ishl dX4_countLast_91 ?_
              refine v_ior dX4_countLast_92 ?_
              refine v_iand dX4_countLast_93 ?_
              rw [sh1 (by omega), nb_or, enc_or (by omega) hne, nb_and, and_255 (andL_lt _), enc_mod (by rw [List.length_map]; exact hne)]
              refine v_putI dX4_countLast_94 fp_RX4_15 rfl ?_
              refine v_iinc dX4_countLast_97 rfl (Nat.le_of_ble_eq_true rfl) rfl ?_
              refine v_goto dX4_countLast_100 ?_
              rw [nI_1]
              first | (refine ihk (k + 1) _ (by omega) hF (by rw [g1, grpC_ne (fun y hy h1 h2 h3 => zc60 (by rw [← h3]; exact (hqq y hy h1 h2).symm))]) (by rw [g2, grpC_ne (fun y hy h1 h2 h3 => zc60 (by rw [← h3]; exact (hqq y hy h1 h2).symm))]); done) | (obtain ⟨j1, j2⟩ := grpC_eq (R := R) (L := L) (f := pl R.2.2.2.1) (p := p) (c := fun x => x.1.1 = g) (d := fun x => pl R.2.2.2.1 x.1 = p) hk2 (fun y hy h2 => ⟨fun h => h.1, fun h => ⟨h, (hqq y hy h h2).trans zc60⟩⟩); refine ihk (k + 1) _ (by omega) hF.set.set ?_ ?_; (rw [setI_ne (by omega), setI_same, j1, List.length_map]; rfl); (rw [setI_same, j2]; rfl))
      refine v_iload dX4_countLast_14 rfl ?_
      refine v_iload dX4_countLast_16 rfl ?_
      refine v_icmp_ge dX4_countLast_18 (fun zc18 => ?_) (fun zc18 => ?_)
      · exact absurd zc18 (nI_ge (by omega) (by omega))
      · refine v_aload_n dX4_countLast_21 rfl ?_
        refine v_iload dX4_countLast_22 rfl ?_
        refine v_iaload dX4_countLast_24 ha.lay (by exact vp_in_nI (by omega) (by omega)) ?_
        rw [nI_clamp (by omega), hpa]
        refine v_if_eq dX4_countLast_25 (fun zc25 => ?_) (fun zc25 => ?_)
        · have hz : (grp R.2.2.2.1 L p).length = 0 := by rw [show (0 : Int32) = nI 0 from rfl, nI_eq (by omega) (by omega)] at zc25; exact enc_0.mp zc25
          have hnone : ∀ x ∈ L, ¬ pl R.2.2.2.1 x.1 = p := fun x hx h => by
            unfold grp at hz
            rw [List.length_map] at hz
            have := List.filter_eq_nil_iff.mp (List.length_eq_zero_iff.mp hz) x hx
            exact this (by simpa using h)
          exact away τ _ _ hF (by rw [g1, grpC_skip (fun y hy h1 => absurd h1 (hnone y.1 (mem_stkT.mp hy).1))]) (by rw [g2, grpC_skip (fun y hy h1 => absurd h1 (hnone y.1 (mem_stkT.mp hy).1))])
        · have hz : ¬ (grp R.2.2.2.1 L p).length = 0 := fun h => zc25 (by rw [enc_0.mpr h]; rfl)
          refine v_aload_n dX4_countLast_28 rfl ?_
          refine v_iload dX4_countLast_29 rfl ?_
          refine v_callV1 dX4_countLast_31 mv_RX4_71 hr.lay rfl (Nat.le_of_ble_eq_true rfl) ?_
          refine ok_stateAt hr (hRt τ hF).2.2.2.1 hm hm2 (by omega) (nPl_w hm hp2) ?_
          show V _ _ _ _ (_ :: _) _ _
          refine v_istore dX4_countLast_34 (Nat.le_of_ble_eq_true rfl) rfl ?_
          refine v_iconst dX4_countLast_36 ?_
          refine v_istore dX4_countLast_37 (Nat.le_of_ble_eq_true rfl) rfl ?_
          exact keys hz R.2.2.2.2.length 0 τ (by omega) hF g1 g2
  refine ok_enter rfl (Nat.le_of_ble_eq_true rfl) ?_
  refine v_aload_n dX4_countLast_0 rfl ?_
  refine v_callV0 dX4_countLast_1 mv_RX4_61 hr.lay rfl (Nat.le_of_ble_eq_true rfl) ?_
  refine ok_places hr hR.2.2.2.1 ?_
  show V _ _ _ _ (_ :: _) _ _
  refine v_aload_n dX4_countLast_4 rfl ?_
  refine v_alen dX4_countLast_5 ha.lay (Nat.le_of_ble_eq_true rfl) rfl ?_
  rw [iz_nI (nPl R.2.2.2.1), show (Int32.ofNat 60200) = iz 60200 from rfl]
  refine v_callS2 dX4_countLast_6 ms_RX4_65 (Nat.le_of_ble_eq_true rfl) ?_
  refine ok_min (by omega) (by omega) (by omega) (by omega) ?_
  rw [show min ((nPl R.2.2.2.1 : Nat) : Int) 60200 = ((nPl R.2.2.2.1 : Nat) : Int) by omega, ← iz_nI]
  show V _ _ _ _ (_ :: _) _ _
  refine v_istore dX4_countLast_9 (Nat.le_of_ble_eq_true rfl) rfl ?_
  refine v_iconst dX4_countLast_11 ?_
  refine v_istore dX4_countLast_12 (Nat.le_of_ble_eq_true rfl) rfl ?_
  exact loop (nPl R.2.2.2.1) 0 σ _ _ (by omega) PFr.rf (by rw [h1, grpC_0]; rfl) (by rw [h2, grpC_0]; rfl)
def PaFr (σ τ : Wd) : Prop := (∀ a b, ¬ (a = 24 ∨ a = 25 ∨ a = 38 ∨ (a = 22 ∧ (b = 3 ∨ b = 4))) → τ.1 a b = σ.1 a b) ∧ τ.2.2 = σ.2.2 ∧ ∀ a, a ≠ 23 → τ.2.1 a = σ.2.1 a
theorem ok_pcount {N g : Nat} (hr : vIsR r) (hR : RepR σ r R) (hv : vR 8 R) (hm : 0 < R.2.2.2.1) (hs : vS R.2.2.2.1 s) (hN : N ≤ 8) (hg : g < 100)
    (hQ : ∀ τ, PaFr σ τ → τ.1 22 4 = 0 → τ.1 38 1 = nI (stkTot R s N g) → τ.1 38 2 = nI (stkCom R s N g) → Q none τ) : Ok (D + 5) mX4_count [.ref 38, .ref r, .int (nI (ps s)), .int (nI N), .int (nI g)] σ Q := by
  have hm2 := hv.m100
  have hnk := hv.n9
  have hNp := nPl_le hm2
  have hr12 : r + 4 < 13 ∧ 3 ≤ r := by rcases hr with rfl | rfl <;> omega
  have hRt : ∀ τ, PaFr σ τ → RepR τ r R := fun τ h => hR.kept (fun x y q1 q2 => h.1 _ _ (by omega))
  have hP : ∀ b τ τ', b = 24 ∨ b = 25 ∨ b = 38 → PaFr σ τ → PFr b τ τ' → PaFr σ τ' := fun b τ τ' hb h1 h2 => ⟨fun x y h => by rw [h2.1 _ _ (by omega)]; exact h1.1 _ _ h, by rw [h2.2]; exact h1.2.1, fun x h => by rw [h2.2]; exact h1.2.2 x h⟩
  have hpow : ∀ i, i ≤ 7 → 8 ^ i ≤ 2097152 := fun i hi => Nat.pow_le_pow_right (n := 8) (by decide) hi
  have hlen : ∀ i, i ≤ 7 → (stkL R s i).length ≤ 2097152 := fun i hi => Nat.le_trans (stkL_len hnk i) (hpow i hi)
  have hlen2 : ∀ i, i ≤ 6 → (stkL R s i).length * R.2.2.2.2.length ≤ 2097152 := fun i hi => by
    have h1 := stkL_len (s := s) hnk i
    have h2 : 8 ^ (i + 1) ≤ 2097152 := hpow (i + 1) (by omega)
    rw [Nat.pow_succ] at h2
    exact Nat.le_trans (Nat.mul_le_mul h1 hnk) h2
  have last : ∀ a b N' τ x7 x8, N = N' + 1 → vIsQ a → PaFr σ τ → τ.1 22 4 = 0 → τ.1 38 1 = 0 → τ.1 38 2 = 255 → (∀ q, q < nPl R.2.2.2.1 → τ.1 a q = nI (enc (grp R.2.2.2.1 (stkL R s N') q))) → V mX4_count (D + 5) 98 [some (.ref 38), some (.ref r), some (.int (nI (ps s))), some (.int (nI N)), some (.int (nI g)), some (.ref a), some (.ref b), x7, x8] [] τ Q := by
    intro a b N' τ x7 x8 hN' ha hF h4 h1 h2 ha1
    have hl8 : (stkL R s N').length * R.2.2.2.2.length ≤ 16777216 := by
      have := Nat.mul_le_mul (hlen N' (by omega)) hnk
      omega
    have ee : stkTot R s N g = (((stkT R (stkL R s N')).map (stkN R)).filter (fun x => decide (x.1.1 = g))).length := by rw [hN']; rfl
    have ec : stkCom R s N g = if (((stkT R (stkL R s N')).map (stkN R)).filter (fun x => decide (x.1.1 = g))).length = 0 then 0 else andL ((((stkT R (stkL R s N')).map (stkN R)).filter (fun x => decide (x.1.1 = g))).map Prod.snd) := by rw [hN']; rfl
    refine v_iload_n dX4_count_98 rfl ?_
    refine v_if_ne dX4_count_99 (fun zc99 => ?_) (fun zc99 => ?_)
    · refine v_aload_n dX4_count_128 rfl ?_
      refine v_aload_n dX4_count_129 rfl ?_
      refine v_aload dX4_count_130 rfl ?_
      refine v_iload dX4_count_132 rfl ?_
      refine v_callV3 dX4_count_134 mv_RX4_57 rfl rfl (Nat.le_of_ble_eq_true rfl) ?_
      refine ok_countLast hr (hRt τ hF) hv hm ha hg (fun x hx => (stkL_v hv hs N' x hx).1) hl8 (hlen N' (by omega)) ha1 h1 h2 (fun τ' f1 f2 f3 => ?_)
      show V _ _ _ _ _ _ _
      refine v_return dX4_count_137 rfl ?_
      rw [← ee] at f2
      rw [← ec] at f3
      exact hQ τ' (hP 38 τ τ' (by omega) hF f1) (by rw [f1.1 _ _ (by omega)]; exact h4) f2 f3
    · exact absurd zc99 (nI_ne0 (by omega) (by omega))
  have zero : ∀ a b τ x7 x8, N = 0 → PaFr σ τ → τ.1 22 4 = 0 → V mX4_count (D + 5) 98 [some (.ref 38), some (.ref r), some (.int (nI (ps s))), some (.int (nI N)), some (.int (nI g)), some (.ref a), some (.ref b), x7, x8] [] τ Q := by
    intro a b τ x7 x8 hN' hF h4
    subst hN'
    have hsh := hs.1
    have et : stkTot R s 0 g = if s.1 = g then 1 else 0 := by
      unfold stkTot stkL
      rw [List.filter_cons]
      by_cases h : s.1 = g <;> simp [h]
    have ec : stkCom R s 0 g = 0 := by
      unfold stkCom
      rw [et]
      by_cases h : s.1 = g
      · rw [if_pos h, if_neg (by decide)]
        unfold stkL
        rw [List.filter_cons]
        simp only [h, decide_true, if_true]
        show 0 &&& _ = 0
        exact Nat.zero_and _
      · rw [if_neg h, if_pos rfl]
    refine v_iload_n dX4_count_98 rfl ?_
    refine v_if_ne dX4_count_99 (fun zc99 => ?_) (fun zc99 => ?_)
    · exact absurd rfl zc99
    · refine v_aload_n dX4_count_102 rfl ?_
      refine v_iload_n dX4_count_103 rfl ?_
      refine v_callS1 dX4_count_104 ms_RX4_54 (Nat.le_of_ble_eq_true rfl) ?_
      refine ok_shownIn ?_
      rw [ps_sh hm2 hs]
      show V _ _ _ _ (_ :: _) _ _
      refine v_iload dX4_count_107 rfl ?_
      refine v_icmp_ne dX4_count_109 (fun zc109 => ?_) (fun zc109 => ?_)
      · rw [nI_eq (by omega) (by omega)] at zc109
        refine v_iconst dX4_count_116 ?_
        refine v_putI dX4_count_117 fp_RX4_9 rfl ?_
        refine v_aload_n dX4_count_120 rfl ?_
        refine v_iconst dX4_count_121 ?_
        refine v_putI dX4_count_122 fp_RX4_15 rfl ?_
        refine v_goto dX4_count_125 ?_
        refine v_return dX4_count_137 rfl ?_
        first | (rw [if_pos zc109] at et) | (rw [if_neg zc109] at et)
        exact hQ _ (hP 38 τ _ (by omega) hF (PFr.rf.set.set)) (by rw [setI_ne (by omega), setI_ne (by omega)]; exact h4) (by rw [setI_ne (by omega), setI_same, et]; rfl) (by rw [setI_same, ec]; rfl)
      · rw [nI_eq (by omega) (by omega)] at zc109
        refine v_iconst dX4_count_112 ?_
        refine v_goto dX4_count_113 ?_
        refine v_putI dX4_count_117 fp_RX4_9 rfl ?_
        refine v_aload_n dX4_count_120 rfl ?_
        refine v_iconst dX4_count_121 ?_
        refine v_putI dX4_count_122 fp_RX4_15 rfl ?_
        refine v_goto dX4_count_125 ?_
        refine v_return dX4_count_137 rfl ?_
        first | (rw [if_pos zc109] at et) | (rw [if_neg zc109] at et)
        exact hQ _ (hP 38 τ _ (by omega) hF (PFr.rf.set.set)) (by rw [setI_ne (by omega), setI_ne (by omega)]; exact h4) (by rw [setI_ne (by omega), setI_same, et]; rfl) (by rw [setI_same, ec]; rfl)
  have zero59 : ∀ a b τ x8, N = 0 → PaFr σ τ → τ.1 22 4 = 0 → V mX4_count (D + 5) 59 [some (.ref 38), some (.ref r), some (.int (nI (ps s))), some (.int (nI N)), some (.int (nI g)), some (.ref a), some (.ref b), some (.int 1), x8] [] τ Q := by
    intro a b τ x8 hN' hF h4
    refine v_iload dX4_count_59 rfl ?_
    refine v_iload_n dX4_count_61 rfl ?_
    refine v_icmp_ge dX4_count_62 (fun zc62 => ?_) (fun zc62 => ?_)
    · exact zero a b τ _ _ hN' hF h4
    · exact absurd (show nI N ≤ nI 1 from nI_le (by omega) (by omega)) zc62
  have loop : ∀ j i a b τ x8, vIsQ a → vIsQ b → a ≠ b → (i + 1 + j = N) → PaFr σ τ → τ.1 22 4 = 0 → τ.1 38 1 = 0 → τ.1 38 2 = 255 → (∀ q, q < nPl R.2.2.2.1 → τ.1 a q = nI (enc (grp R.2.2.2.1 (stkL R s i) q))) → V mX4_count (D + 5) 59 [some (.ref 38), some (.ref r), some (.int (nI (ps s))), some (.int (nI N)), some (.int (nI g)), some (.ref a), some (.ref b), some (.int (nI (i + 1))), x8] [] τ Q := by
    intro j
    induction j with
    | zero =>
      intro i a b τ x8 ha hb hab hi hF h4 h1 h2 ha1
      refine v_iload dX4_count_59 rfl ?_
      refine v_iload_n dX4_count_61 rfl ?_
      refine v_icmp_ge dX4_count_62 (fun zc62 => ?_) (fun zc62 => ?_)
      · exact last a b i τ _ _ (by omega) ha hF h4 h1 h2 ha1
      · exact absurd (nI_le (by omega) (by omega)) zc62
    | succ j ih =>
      intro i a b τ x8 ha hb hab hi hF h4 h1 h2 ha1
      have hb2 : b = 24 ∨ b = 25 := hb
      have ha2 : a = 24 ∨ a = 25 := ha
      have hF2 : PaFr σ (fillI τ b 60200 0) := hP b τ _ (by omega) hF ⟨fun x y h => fillI_o h, rfl⟩
      refine v_iload dX4_count_59 rfl ?_
      refine v_iload_n dX4_count_61 rfl ?_
      refine v_icmp_ge dX4_count_62 (fun zc62 => ?_) (fun zc62 => ?_)
      · exact absurd zc62 (nI_ge (by omega) (by omega))
      · refine v_aload dX4_count_65 rfl ?_
        refine v_iconst dX4_count_67 ?_
        refine v_callS2 dX4_count_68 ms_RX4_34 (Nat.le_of_ble_eq_true rfl) ?_
        refine ok_fillI hb.lay (by decide) ?_
        show V _ _ _ _ _ _ _
        refine v_aload_n dX4_count_71 rfl ?_
        refine v_aload_n dX4_count_72 rfl ?_
        refine v_aload dX4_count_73 rfl ?_
        refine v_aload dX4_count_75 rfl ?_
        refine v_callV3 dX4_count_77 mv_RX4_50 rfl rfl (Nat.le_of_ble_eq_true rfl) ?_
        refine ok_pgoOn hr (hRt _ hF2) hv hm ha hb hab (fun x hx => (stkL_v hv hs i x hx).1) (hlen2 i (by omega)) (hlen i (by omega)) (fun q hq => by rw [fillI_o hab]; exact ha1 q hq) (fun q hq => fillI_i (by omega)) (fun τ' f1 f2 => ?_)
        show V _ _ _ _ _ _ _
        refine v_aload dX4_count_80 rfl ?_
        refine v_astore dX4_count_82 (Nat.le_of_ble_eq_true rfl) rfl ?_
        refine v_aload dX4_count_84 rfl ?_
        refine v_astore dX4_count_86 (Nat.le_of_ble_eq_true rfl) rfl ?_
        refine v_aload dX4_count_88 rfl ?_
        refine v_astore dX4_count_90 (Nat.le_of_ble_eq_true rfl) rfl ?_
        refine v_iinc dX4_count_92 rfl (Nat.le_of_ble_eq_true rfl) rfl ?_
        refine v_goto dX4_count_95 ?_
        rw [nI_1]
        exact ih (i + 1) b a τ' _ hb ha (Ne.symm hab) (by omega) (hP b _ τ' (by omega) hF2 f1) (by rw [f1.1 _ _ (by omega), fillI_o (by omega)]; exact h4) (by rw [f1.1 _ _ (by omega), fillI_o (by omega)]; exact h1) (by rw [f1.1 _ _ (by omega), fillI_o (by omega)]; exact h2) f2
  have hpl := pl_lt hm hs
  refine ok_enter rfl (Nat.le_of_ble_eq_true rfl) ?_
  refine v_aload_n dX4_count_0 rfl ?_
  refine v_iconst dX4_count_1 ?_
  refine v_putI dX4_count_2 fp_RX4_9 rfl ?_
  refine v_aload_n dX4_count_5 rfl ?_
  refine v_sipush dX4_count_6 ?_
  refine v_putI dX4_count_9 fp_RX4_15 rfl ?_
  refine v_aload_n dX4_count_12 rfl ?_
  refine v_getR (q := 22) dX4_count_13 fl_RX4_18 rfl rfl ?_
  refine v_callV0 dX4_count_16 mv_RX4_22 rfl rfl (Nat.le_of_ble_eq_true rfl) ?_
  refine ok_rowsEmpty ?_
  show V _ _ _ _ _ _ _
  refine v_aload_n dX4_count_19 rfl ?_
  refine v_getR (q := 22) dX4_count_20 fl_RX4_18 rfl rfl ?_
  refine v_getR (q := 24) dX4_count_23 fl_RX4_27 rfl rfl ?_
  refine v_astore dX4_count_26 (Nat.le_of_ble_eq_true rfl) rfl ?_
  refine v_aload_n dX4_count_28 rfl ?_
  refine v_getR (q := 22) dX4_count_29 fl_RX4_18 rfl rfl ?_
  refine v_getR (q := 25) dX4_count_32 fl_RX4_31 rfl rfl ?_
  refine v_astore dX4_count_35 (Nat.le_of_ble_eq_true rfl) rfl ?_
  refine v_aload dX4_count_37 rfl ?_
  refine v_iconst dX4_count_39 ?_
  refine v_callS2 dX4_count_40 ms_RX4_34 (Nat.le_of_ble_eq_true rfl) ?_
  refine ok_fillI rfl (by decide) ?_
  show V _ _ _ _ _ _ _
  refine v_aload dX4_count_43 rfl ?_
  refine v_aload_n dX4_count_45 rfl ?_
  refine v_iload_n dX4_count_46 rfl ?_
  refine v_callV1 dX4_count_47 mv_RX4_40 hr.lay rfl (Nat.le_of_ble_eq_true rfl) ?_
  refine ok_placeOf hr (by rw [fillI_o (by omega), setI_ne (by omega), setI_ne (by omega)]; show (setI (setI σ 38 1 0) 38 2 255).1 r 3 = _; rw [setI_ne (by omega), setI_ne (by omega)]; exact hR.2.2.2.1) hm2 hs ?_
  show V _ _ _ _ (_ :: _) _ _
  refine v_sipush dX4_count_50 ?_
  refine v_callS3 dX4_count_53 ms_RX4_46 (Nat.le_of_ble_eq_true rfl) ?_
  refine ok_put rfl (by decide) ?_
  rw [show wPut (fillI (setI (setI (fillL (setI (setI σ 38 1 0) 38 2 255) 23 2048 0) 22 3 0) 22 4 0) 24 60200 0) 24 60200 (nI (pl R.2.2.2.1 s)) 256 = setI (fillI (setI (setI (fillL (setI (setI σ 38 1 0) 38 2 255) 23 2048 0) 22 3 0) 22 4 0) 24 60200 0) 24 (pl R.2.2.2.1 s) 256 by unfold wPut; rw [nI_toInt (by omega), if_pos (by omega)]; rfl]
  show V _ _ _ _ _ _ _
  refine v_iconst dX4_count_56 ?_
  refine v_istore dX4_count_57 (Nat.le_of_ble_eq_true rfl) rfl ?_
  have hF0 : PaFr σ (setI (fillI (setI (setI (fillL (setI (setI σ 38 1 0) 38 2 255) 23 2048 0) 22 3 0) 22 4 0) 24 60200 0) 24 (pl R.2.2.2.1 s) 256) := by
    refine ⟨fun x y h => ?_, rfl, fun x h => ?_⟩
    · rw [setI_ne (by omega), fillI_o (by omega), setI_ne (by omega), setI_ne (by omega)]
      show (setI (setI σ 38 1 0) 38 2 255).1 x y = _
      rw [setI_ne (by omega), setI_ne (by omega)]
    · show (fun b => if x = 23 ∧ b < 2048 then (0 : Int64) else σ.2.1 x b) = σ.2.1 x
      funext b
      rw [if_neg (by omega)]
  have q4 : (setI (fillI (setI (setI (fillL (setI (setI σ 38 1 0) 38 2 255) 23 2048 0) 22 3 0) 22 4 0) 24 60200 0) 24 (pl R.2.2.2.1 s) 256).1 22 4 = 0 := by rw [setI_ne (by omega), fillI_o (by omega), setI_same]
  have q1 : (setI (fillI (setI (setI (fillL (setI (setI σ 38 1 0) 38 2 255) 23 2048 0) 22 3 0) 22 4 0) 24 60200 0) 24 (pl R.2.2.2.1 s) 256).1 38 1 = 0 := by
    rw [setI_ne (by omega), fillI_o (by omega), setI_ne (by omega), setI_ne (by omega)]
    show (setI (setI σ 38 1 0) 38 2 255).1 38 1 = _
    rw [setI_ne (by omega), setI_same]
  have q2 : (setI (fillI (setI (setI (fillL (setI (setI σ 38 1 0) 38 2 255) 23 2048 0) 22 3 0) 22 4 0) 24 60200 0) 24 (pl R.2.2.2.1 s) 256).1 38 2 = 255 := by
    rw [setI_ne (by omega), fillI_o (by omega), setI_ne (by omega), setI_ne (by omega)]
    show (setI (setI σ 38 1 0) 38 2 255).1 38 2 = _
    rw [setI_same]
  rcases Nat.eq_zero_or_pos N with h | h
  · exact zero59 24 25 _ _ h hF0 q4
  · refine loop (N - 1) 0 24 25 _ _ (Or.inl rfl) (Or.inr rfl) (by decide) (by omega) hF0 q4 q1 q2 (fun q hq => ?_)
    have eg : grp R.2.2.2.1 (stkL R s 0) q = if pl R.2.2.2.1 s = q then [0] else [] := by
      unfold grp stkL
      rw [List.filter_cons]
      by_cases h : pl R.2.2.2.1 s = q <;> simp [h]
    rw [eg]
    by_cases h : pl R.2.2.2.1 s = q
    · rw [if_pos h, h, setI_same]; rfl
    · rw [if_neg h, setI_ne (by omega), fillI_i (by omega)]; rfl
theorem PaFr.stc (h : PaFr σ τ) (h4 : τ.1 22 4 = 0) (hC : StC σ R s) : StC τ R s := by
  obtain ⟨c1, c2, c3⟩ := hC
  have e5 : τ.1 26 5 = σ.1 26 5 := h.1 _ _ (by omega)
  refine ⟨by rw [e5]; exact c1, Or.inl h4, fun hm => ⟨fun h5 v hv => ?_, fun h5 => ?_⟩⟩
  · rw [h.1 _ _ (by omega)]
    exact (c3 hm).1 (by rw [← e5]; exact h5) v hv
  · rw [h4] at h5
    exact absurd h5 (by decide)
def stkAns (R : Rk) (s : St) (x y z : Int) : Int32 := if x < 0 ∨ 8 < x ∨ ¬ (0 ≤ y ∧ y < R.2.2.2.1) ∨ z < 0 ∨ 1 < z then OUT else nI (if z = 0 then stkTot R s x.toNat y.toNat else stkCom R s x.toNat y.toNat)
theorem ok_cstruck {x y z : Int32} (hP : CP σ r R s) (hC : StC σ R s) (hQ : ∀ τ, PaFr σ τ → StC τ R s → Q (some (.int (stkAns R s x.toInt y.toInt z.toInt))) τ) : Ok (D + 6) mX11_struck [.ref 0, .int x, .int y, .int z] σ Q := by
  obtain ⟨hr, hrk, hR, hv, hp0, hs⟩ := id hP
  have hm := hv.m100
  obtain ⟨x1, x2⟩ := iz_rng x
  have hxe := iz_of x
  generalize hxi : x.toInt = xi at *
  subst hxe
  obtain ⟨y1, y2⟩ := iz_rng y
  have hye := iz_of y
  generalize hyi : y.toInt = yi at *
  subst hye
  obtain ⟨z1, z2⟩ := iz_rng z
  have hze := iz_of z
  generalize hzi : z.toInt = zi at *
  subst hze
  unfold stkAns at hQ
  have out : (xi < 0 ∨ 8 < xi ∨ ¬ (0 ≤ yi ∧ yi < R.2.2.2.1) ∨ zi < 0 ∨ 1 < zi) → Q (some (.int OUT)) σ := fun h => by
    have := hQ σ ⟨fun _ _ _ => rfl, rfl, fun _ _ => rfl⟩ hC
    rw [if_pos h] at this
    exact this
  refine ok_enter rfl (Nat.le_of_ble_eq_true rfl) ?_
  refine v_iload_n dX11_struck_0 rfl ?_
  refine v_if_lt dX11_struck_1 (fun zc1 => ?_) (fun zc1 => ?_)
  · simp (disch := omega) only [iz_lit, iz_lt] at zc1
    refine v_ldc dX11_struck_27 cn_RX11_97 ?_
    refine v_ireturn dX11_struck_29 rfl (rfl) ?_
    exact out (by omega)
  · simp (disch := omega) only [iz_lit, iz_lt] at zc1
    refine v_iload_n dX11_struck_4 rfl ?_
    refine v_bipush dX11_struck_5 ?_
    refine v_icmp_gt dX11_struck_7 (fun zc7 => ?_) (fun zc7 => ?_)
    · simp (disch := omega) only [iz_lit, iz_lt] at zc7
      refine v_ldc dX11_struck_27 cn_RX11_97 ?_
      refine v_ireturn dX11_struck_29 rfl (rfl) ?_
      exact out (by omega)
    · simp (disch := omega) only [iz_lit, iz_lt] at zc7
      refine v_aload_n dX11_struck_10 rfl ?_
      refine v_iload_n dX11_struck_11 rfl ?_
      refine v_callV1 dX11_struck_12 mv_RX11_188 rfl rfl (Nat.le_of_ble_eq_true rfl) ?_
      refine ok_isOnDial hr hrk hR.2.2.2.1 hm ?_
      rw [hyi]
      show V _ _ _ _ (_ :: _) _ _
      refine v_if_eq dX11_struck_15 (fun zc15 => ?_) (fun zc15 => ?_)
      · have hx := if01 zc15
        refine v_ldc dX11_struck_27 cn_RX11_97 ?_
        refine v_ireturn dX11_struck_29 rfl (rfl) ?_
        exact out (by omega)
      · have hx := if10 zc15
        refine v_iload_n dX11_struck_18 rfl ?_
        refine v_if_lt dX11_struck_19 (fun zc19 => ?_) (fun zc19 => ?_)
        · simp (disch := omega) only [iz_lit, iz_lt] at zc19
          refine v_ldc dX11_struck_27 cn_RX11_97 ?_
          refine v_ireturn dX11_struck_29 rfl (rfl) ?_
          exact out (by omega)
        · simp (disch := omega) only [iz_lit, iz_lt] at zc19
          refine v_iload_n dX11_struck_22 rfl ?_
          refine v_iconst dX11_struck_23 ?_
          refine v_icmp_le dX11_struck_24 (fun zc24 => ?_) (fun zc24 => ?_)
          · simp (disch := omega) only [iz_lit, iz_le] at zc24
            refine v_aload_n dX11_struck_30 rfl ?_
            refine v_getR (q := 38) dX11_struck_31 fl_RX11_79 rfl rfl ?_
            refine v_aload_n dX11_struck_34 rfl ?_
            refine v_getM dX11_struck_35 fl_RX11_19 rfl ?_
            rw [hrk]
            refine v_aload_n dX11_struck_38 rfl ?_
            refine v_getR (q := 13) dX11_struck_39 fl_RX11_29 rfl rfl ?_
            refine v_getI dX11_struck_42 fl_RX11_114 rfl ?_
            rw [hp0]
            refine v_iload_n dX11_struck_45 rfl ?_
            refine v_iload_n dX11_struck_46 rfl ?_
            refine v_callV4 dX11_struck_47 mv_RX11_245 rfl rfl (Nat.le_of_ble_eq_true rfl) ?_
            rw [nI_of_iz (show 0 ≤ xi by omega), nI_of_iz hx.1]
            refine ok_pcount hr hR hv (by omega) hs (by omega) (by omega) (fun τ f1 f2 f3 f4 => ?_)
            show V _ _ _ _ _ _ _
            refine v_iload_n dX11_struck_50 rfl ?_
            refine v_if_ne dX11_struck_51 (fun zc51 => ?_) (fun zc51 => ?_)
            · simp (disch := omega) only [iz_lit, iz_eq] at zc51
              refine v_aload_n dX11_struck_64 rfl ?_
              refine v_getR (q := 38) dX11_struck_65 fl_RX11_79 rfl rfl ?_
              refine v_getI dX11_struck_68 fl_RX11_252 rfl ?_
              rw [f4]
              refine v_ireturn dX11_struck_71 rfl (rfl) ?_
              have h9 := hQ τ f1 (f1.stc f2 hC)
              rw [if_neg (by omega)] at h9
              first | (rw [if_pos zc51] at h9; exact h9) | (rw [if_neg zc51] at h9; exact h9)
            · simp (disch := omega) only [iz_lit, iz_eq] at zc51
              refine v_aload_n dX11_struck_54 rfl ?_
              refine v_getR (q := 38) dX11_struck_55 fl_RX11_79 rfl rfl ?_
              refine v_getI dX11_struck_58 fl_RX11_249 rfl ?_
              rw [f3]
              refine v_goto dX11_struck_61 ?_
              refine v_ireturn dX11_struck_71 rfl (rfl) ?_
              have h9 := hQ τ f1 (f1.stc f2 hC)
              rw [if_neg (by omega)] at h9
              first | (rw [if_pos zc51] at h9; exact h9) | (rw [if_neg zc51] at h9; exact h9)
          · simp (disch := omega) only [iz_lit, iz_le] at zc24
            refine v_ldc dX11_struck_27 cn_RX11_97 ?_
            refine v_ireturn dX11_struck_29 rfl (rfl) ?_
            exact out (by omega)
end CPa
