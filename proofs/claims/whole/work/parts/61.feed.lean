/-! ===== feed on both sides; the class's reckoner ===== -/
def byt (x : Int64) (k : Nat) : Nat := x.toBitVec.toNat / 2 ^ (8 * k) % 256
def fdL (x : Int64) (n : Nat) : List Nat := (List.range n).map (fun t => byt x (n - 1 - t))
def RepMX (σ : Wd) (T : List Nat) : Prop := σ.1 44 6 = nI T.length ∧ ∀ (j c : Nat), T[j]? = some c → σ.1 46 j = nI c
section FD
variable {D : Nat} {σ τ : Wd} {Q : Option Value → Wd → Prop} {T : List Nat} {i p n k r j : Nat} {R : Rk} {s : St}
theorem l2i_n (w : Int64) : w.toInt32 = nI w.toBitVec.toNat := by
  apply Int32.toBitVec_inj.1
  show w.toBitVec.signExtend 32 = BitVec.ofNat 32 w.toBitVec.toNat
  rw [BitVec.ofNat_toNat, BitVec.signExtend_eq_setWidth_of_le _ (by decide)]
theorem fd_k1 : ∀ i, i < 8 → ((nI (8 * i)).toInt64.toUInt64 &&& Int64.toUInt64 63).toNat % 64 = 8 * i := by decide +kernel
theorem fd_k2 : ∀ i, i < 8 → ((((nI (8 * i)).toInt64 &&& 63) : Int64).toBitVec.smod 64).toNat = 8 * i := by decide +kernel
theorem fd_c (x : Int64) (hi : i < 8) : ((x.toUInt64 >>> ((nI (8 * i)).toInt64.toUInt64 &&& Int64.toUInt64 63)).toInt64).toInt32 &&& 255 = nI (byt x i) := by
  rw [l2i_n, show (255 : Int32) = nI 255 from rfl, nb_and, show (255 : Nat) = 2 ^ 8 - 1 from rfl, Nat.and_two_pow_sub_one_eq_mod]
  have h : (x.toUInt64 >>> ((nI (8 * i)).toInt64.toUInt64 &&& Int64.toUInt64 63)).toInt64.toBitVec.toNat = x.toBitVec.toNat / 2 ^ (8 * i) := by
    show (x.toUInt64 >>> ((nI (8 * i)).toInt64.toUInt64 &&& Int64.toUInt64 63)).toNat = _
    rw [UInt64.toNat_shiftRight, fd_k1 i hi, Nat.shiftRight_eq_div_pow]
    rfl
  rw [h]
  rfl
theorem fd_m (x : Int64) (hi : i < 8) : (x >>> ((nI (8 * i)).toInt64 &&& 63) &&& (255 : Int64)).toInt32 = nI (byt x i) := by
  rw [l2i_n]
  congr 1
  have h : (x >>> ((nI (8 * i)).toInt64 &&& 63) &&& (255 : Int64)).toBitVec.toNat = (x >>> ((nI (8 * i)).toInt64 &&& 63)).toBitVec.toNat &&& (2 ^ 8 - 1) := by
    rw [Int64.toBitVec_and, BitVec.toNat_and]
    rfl
  rw [h, Nat.and_two_pow_sub_one_eq_mod]
  unfold byt
  rw [show (256 : Nat) = 2 ^ 8 from rfl]
  apply Nat.eq_of_testBit_eq
  intro j
  rw [Nat.testBit_mod_two_pow, Nat.testBit_mod_two_pow, Nat.testBit_div_two_pow]
  by_cases hj : j < 8
  · have e : (x >>> ((nI (8 * i)).toInt64 &&& 63)).toBitVec.toNat.testBit j = (x >>> ((nI (8 * i)).toInt64 &&& 63)).toBitVec.getLsbD j := rfl
    rw [e, Int64.toBitVec_shiftRight]
    unfold BitVec.sshiftRight'
    rw [fd_k2 i hi, BitVec.getLsbD_sshiftRight, if_pos (by omega)]
    have e2 : x.toBitVec.getLsbD (8 * i + j) = x.toBitVec.toNat.testBit (j + 8 * i) := by rw [Nat.add_comm]; rfl
    rw [e2]
    have : decide (64 ≤ j) = false := decide_eq_false (by omega)
    rw [this]
    simp
  · simp [hj]
theorem fdL_len {x : Int64} : (fdL x n).length = n := by unfold fdL; rw [List.length_map, List.length_range]
theorem fdL_at {x : Int64} (h : i < n) : (fdL x n)[i]? = some (byt x (n - 1 - i)) := by
  unfold fdL
  rw [List.getElem?_map, List.getElem?_range h]
  rfl
theorem byt_lt {x : Int64} : byt x k < 256 := Nat.mod_lt _ (by omega)
theorem fdL_lt {x : Int64} : ∀ c ∈ fdL x n, c < 256 := fun c hc => by
  obtain ⟨t, -, rfl⟩ := List.mem_map.mp hc
  exact byt_lt
theorem vT.app {x : Int64} (hT : vT T) (h : T.length + n ≤ 400) : vT (T ++ fdL x n) := ⟨by rw [List.length_append, fdL_len]; exact h, fun c hc => by
  rcases List.mem_append.mp hc with h | h
  · exact hT.2 c h
  · exact fdL_lt c h⟩
theorem ok_append {c : Nat} {b : Int32} (hc : σ.1 1 1 = nI c) (hl : c < 400) (hQ : Q none (setI (setI σ 2 c b) 1 1 (nI (c + 1)))) : Ok D mX9_append [.ref 1, .int b] σ Q := by
  refine ok_enter rfl (Nat.le_of_ble_eq_true rfl) ?_
  refine v_aload_n dX9_append_0 rfl ?_
  refine v_getI dX9_append_1 fl_RX9_15 rfl ?_
  rw [hc]
  refine v_if_lt dX9_append_4 (fun zc4 => ?_) (fun zc4 => ?_)
  · exact absurd zc4 (nI_pos (by omega))
  · refine v_aload_n dX9_append_7 rfl ?_
    refine v_getI dX9_append_8 fl_RX9_15 rfl ?_
    rw [hc]
    refine v_aload_n dX9_append_11 rfl ?_
    refine v_getR (q := 2) dX9_append_12 fl_RX9_9 rfl rfl ?_
    refine v_alen dX9_append_15 rfl (Nat.le_of_ble_eq_true rfl) rfl ?_
    refine v_icmp_ge dX9_append_16 (fun zc16 => ?_) (fun zc16 => ?_)
    · exact absurd zc16 (nI_ge (b := 400) (by omega) (by omega))
    · refine v_aload_n dX9_append_19 rfl ?_
      refine v_getR (q := 2) dX9_append_20 fl_RX9_9 rfl rfl ?_
      refine v_aload_n dX9_append_23 rfl ?_
      refine v_getI dX9_append_24 fl_RX9_15 rfl ?_
      rw [hc]
      refine v_iload_n dX9_append_27 rfl ?_
      refine v_iastore dX9_append_28 rfl (by exact vp_in_nI (by omega) (by omega)) ?_
      rw [nI_clamp (by omega)]
      refine v_aload_n dX9_append_29 rfl ?_
      refine v_dup dX9_append_30 rfl ?_
      refine v_getI dX9_append_31 fl_RX9_15 rfl ?_
      rw [setI_ne (by omega), hc]
      refine v_iconst dX9_append_34 ?_
      refine v_iadd dX9_append_35 ?_
      rw [nI_1]
      refine v_putI dX9_append_36 fp_RX9_15 rfl ?_
      refine v_return dX9_append_39 rfl ?_
      exact hQ
theorem ok_cfeed {y : Int32} {x : Int64} (hX : RepX σ T) (hT : vT T) (h1 : ¬ (1 ≤ y.toInt ∧ y.toInt ≤ 8) → Q (some (.int OUT)) σ) (h2 : 1 ≤ y.toInt ∧ y.toInt ≤ 8 → 400 < T.length + y.toInt.toNat → Q (some (.int FUL)) σ) (h3 : 1 ≤ y.toInt ∧ y.toInt ≤ 8 → T.length + y.toInt.toNat ≤ 400 → ∀ τ : Wd, (∀ a b, ¬ (a = 2 ∨ (a = 1 ∧ b = 1)) → τ.1 a b = σ.1 a b) → τ.2 = σ.2 → RepX τ (T ++ fdL x y.toInt.toNat) → Q (some (.int (nI (T.length + y.toInt.toNat)))) τ) : Ok (D + 1) mX11_feed [.ref 0, .int y, .long x] σ Q := by
  have hl := hT.1
  obtain ⟨y1, y2⟩ := iz_rng y
  have hye := iz_of y
  generalize hyi : y.toInt = yi at *
  subst hye
  have loop : 1 ≤ yi ∧ yi ≤ 8 → T.length + yi.toNat ≤ 400 → ∀ j t τ, t + j = yi.toNat → (∀ a b, ¬ (a = 2 ∨ (a = 1 ∧ b = 1)) → τ.1 a b = σ.1 a b) → τ.2 = σ.2 → τ.1 1 1 = nI (T.length + t) → (∀ (z c : Nat), z < T.length + t → (T ++ fdL x yi.toNat)[z]? = some c → τ.1 2 z = nI c) → V mX11_feed (D + 1) 37 [some (.ref 0), some (.int (iz yi)), some (.long x), none, some (.int (iz (yi - 1 - t)))] [] τ Q := by
    intro hy hle j
    induction j with
    | zero =>
      intro t τ ht hF hF2 hsz hb
      have h9 := h3 hy hle τ hF hF2 ⟨by rw [hsz, List.length_append, fdL_len]; congr 1; omega, fun z c hz => hb z c (by have := (List.getElem?_eq_some_iff.mp hz).1; rw [List.length_append, fdL_len] at this; omega) hz⟩
      refine v_iload dX11_feed_37 rfl ?_
      refine v_if_lt dX11_feed_39 (fun zc39 => ?_) (fun zc39 => ?_)
      · refine v_aload_n dX11_feed_67 rfl ?_
        refine v_getR (q := 1) dX11_feed_68 fl_RX11_12 rfl rfl ?_
        refine v_getI dX11_feed_71 fl_RX11_98 rfl ?_
        rw [hsz]
        refine v_ireturn dX11_feed_74 rfl (rfl) ?_
        rw [show T.length + t = T.length + yi.toNat by omega]
        exact h9
      · exact absurd (show iz (yi - 1 - t) < 0 by rw [iz_0, iz_lt (by omega) (by omega) (by omega) (by omega)]; omega) zc39
    | succ j ih =>
      intro t τ ht hF hF2 hsz hb
      have hnx := ih (t + 1) (setI (setI τ 2 (T.length + t) (nI (byt x (yi.toNat - 1 - t)))) 1 1 (nI (T.length + t + 1))) (by omega) (fun a b h => by rw [setI_ne (by omega), setI_ne (by omega)]; exact hF a b h) hF2 setI_same (fun z c hz hc => by
        rw [setI_ne (by omega)]
        by_cases e : z = T.length + t
        · rw [e, setI_same]
          rw [e, List.getElem?_append_right (by omega), show T.length + t - T.length = t by omega, fdL_at (by omega)] at hc
          rw [Option.some.inj hc]
        · rw [setI_ne (by omega)]
          exact hb z c (by omega) hc)
      have e1 : iz (yi - 1 - t) = nI (yi.toNat - 1 - t) := by rw [iz_nI]; congr 1; omega
      refine v_iload dX11_feed_37 rfl ?_
      refine v_if_lt dX11_feed_39 (fun zc39 => ?_) (fun zc39 => ?_)
      · exact absurd zc39 (by rw [e1]; exact nI_pos (by omega))
      · refine v_aload_n dX11_feed_42 rfl ?_
        refine v_getR (q := 1) dX11_feed_43 fl_RX11_12 rfl rfl ?_
        refine v_lload_n dX11_feed_46 rfl ?_
        refine v_bipush dX11_feed_47 ?_
        refine v_iload dX11_feed_49 rfl ?_
        refine v_imul dX11_feed_51 ?_
        rw [e1, show (8 : Int32) = nI 8 from rfl, pk_mul]
        refine v_lushr dX11_feed_52 ?_
        refine v_l2i dX11_feed_53 ?_
        refine v_sipush dX11_feed_54 ?_
        refine v_iand dX11_feed_57 ?_
        rw [fd_c x (by omega)]
        refine v_callV1 dX11_feed_58 mv_RX11_103 rfl rfl (Nat.le_of_ble_eq_true rfl) ?_
        refine ok_append hsz (by omega) ?_
        show V _ _ _ _ _ _ _
        refine v_iinc dX11_feed_61 rfl (Nat.le_of_ble_eq_true rfl) rfl ?_
        refine v_goto dX11_feed_64 ?_
        rw [← e1, show iz (yi - 1 - t) + (-1 : Int32) = iz (yi - 1 - ((t + 1 : Nat) : Int)) by rw [show (-1 : Int32) = iz (-1) from rfl, iz_add]; congr 1; omega]
        exact hnx
  refine ok_enter rfl (Nat.le_of_ble_eq_true rfl) ?_
  refine v_iload_n dX11_feed_0 rfl ?_
  refine v_iconst dX11_feed_1 ?_
  refine v_icmp_lt dX11_feed_2 (fun zc2 => ?_) (fun zc2 => ?_)
  · rw [show (1 : Int32) = iz 1 from rfl, iz_lt (by omega) (by omega) (by omega) (by omega)] at zc2
    refine v_ldc dX11_feed_11 cn_RX11_97 ?_
    refine v_ireturn dX11_feed_13 rfl (rfl) ?_
    exact h1 (by omega)
  · rw [show (1 : Int32) = iz 1 from rfl, iz_lt (by omega) (by omega) (by omega) (by omega)] at zc2
    refine v_iload_n dX11_feed_5 rfl ?_
    refine v_bipush dX11_feed_6 ?_
    refine v_icmp_le dX11_feed_8 (fun zc8 => ?_) (fun zc8 => ?_)
    · rw [show (8 : Int32) = iz 8 from rfl, iz_le (by omega) (by omega) (by omega) (by omega)] at zc8
      refine v_aload_n dX11_feed_14 rfl ?_
      refine v_getR (q := 1) dX11_feed_15 fl_RX11_12 rfl rfl ?_
      refine v_getI dX11_feed_18 fl_RX11_98 rfl ?_
      rw [hX.1]
      refine v_iload_n dX11_feed_21 rfl ?_
      refine v_iadd dX11_feed_22 ?_
      refine v_sipush dX11_feed_23 ?_
      rw [iz_nI, iz_add, show (400 : Int32) = iz 400 from rfl]
      refine v_icmp_le dX11_feed_26 (fun zc26 => ?_) (fun zc26 => ?_)
      · rw [iz_le (by omega) (by omega) (by omega) (by omega)] at zc26
        refine v_iload_n dX11_feed_32 rfl ?_
        refine v_iconst dX11_feed_33 ?_
        refine v_isub dX11_feed_34 ?_
        rw [show (1 : Int32) = iz 1 from rfl, iz_sub]
        refine v_istore dX11_feed_35 (Nat.le_of_ble_eq_true rfl) rfl ?_
        have h37 := loop (by omega) (by omega) yi.toNat 0 σ (by omega) (fun _ _ _ => rfl) rfl (by rw [hX.1]; rfl) (fun z c hz hc => by rw [List.getElem?_append_left (by omega)] at hc; exact hX.2 z c hc)
        rw [show yi - 1 - ((0 : Nat) : Int) = yi - 1 by omega] at h37
        exact h37
      · rw [iz_le (by omega) (by omega) (by omega) (by omega)] at zc26
        refine v_ldc dX11_feed_29 cn_RX11_102 ?_
        refine v_ireturn dX11_feed_31 rfl (rfl) ?_
        exact h2 (by omega) (by omega)
    · rw [show (8 : Int32) = iz 8 from rfl, iz_le (by omega) (by omega) (by omega) (by omega)] at zc8
      refine v_ldc dX11_feed_11 cn_RX11_97 ?_
      refine v_ireturn dX11_feed_13 rfl (rfl) ?_
      exact h1 (by omega)
theorem ok_mfeed {y : Int32} {x : Int64} (hX : RepMX σ T) (hT : vT T) (h1 : ¬ (1 ≤ y.toInt ∧ y.toInt ≤ 8) → Q (some (.int OUT)) σ) (h2 : 1 ≤ y.toInt ∧ y.toInt ≤ 8 → 400 < T.length + y.toInt.toNat → Q (some (.int FUL)) σ) (h3 : 1 ≤ y.toInt ∧ y.toInt ≤ 8 → T.length + y.toInt.toNat ≤ 400 → ∀ τ : Wd, (∀ a b, ¬ (a = 46 ∨ (a = 44 ∧ b = 6)) → τ.1 a b = σ.1 a b) → τ.2 = σ.2 → RepMX τ (T ++ fdL x y.toInt.toNat) → Q (some (.int (nI (T.length + y.toInt.toNat)))) τ) : Ok (D + 1) mX12_feed [.ref 44, .int y, .long x] σ Q := by
  have hl := hT.1
  have hyr := iz_rng y
  have hye := iz_of y
  generalize hyi : y.toInt = yi at *
  have loop : 1 ≤ yi ∧ yi ≤ 8 → T.length + yi.toNat ≤ 400 → ∀ j t τ, t + j = yi.toNat → (∀ a b, a ≠ 46 → τ.1 a b = σ.1 a b) → τ.2 = σ.2 → (∀ (z c : Nat), z < T.length + t → (T ++ fdL x yi.toNat)[z]? = some c → τ.1 46 z = nI c) → V mX12_feed (D + 1) 31 [some (.ref 44), some (.int y), some (.long x), none, some (.int (nI t))] [] τ Q := by
    intro hy hle j
    have hyn : y = nI yi.toNat := by rw [hye, iz_toN (by omega)]
    subst hyn
    induction j with
    | zero =>
      intro t τ ht hF hF2 hb
      have hsz : τ.1 44 6 = nI T.length := by rw [hF _ _ (by omega)]; exact hX.1
      have h9 := h3 hy hle (setI τ 44 6 (nI (T.length + yi.toNat))) (fun a b h => by rw [setI_ne (by omega)]; exact hF a b (by omega)) hF2 ⟨by rw [setI_same, List.length_append, fdL_len], fun z c hz => by rw [setI_ne (by omega)]; exact hb z c (by have := (List.getElem?_eq_some_iff.mp hz).1; rw [List.length_append, fdL_len] at this; omega) hz⟩
      refine v_iload dX12_feed_31 rfl ?_
      refine v_iload_n dX12_feed_33 rfl ?_
      refine v_icmp_ge dX12_feed_34 (fun zc34 => ?_) (fun zc34 => ?_)
      · refine v_aload_n dX12_feed_71 rfl ?_
        refine v_dup dX12_feed_72 rfl ?_
        refine v_getI dX12_feed_73 fl_RX12_73 rfl ?_
        rw [hsz]
        refine v_iload_n dX12_feed_76 rfl ?_
        refine v_iadd dX12_feed_77 ?_
        rw [nI_add]
        refine v_putI dX12_feed_78 fp_RX12_73 rfl ?_
        refine v_aload_n dX12_feed_81 rfl ?_
        refine v_getI dX12_feed_82 fl_RX12_73 rfl ?_
        rw [setI_same]
        refine v_ireturn dX12_feed_85 rfl (rfl) ?_
        exact h9
      · exact absurd (nI_le (by omega) (by omega)) zc34
    | succ j ih =>
      intro t τ ht hF hF2 hb
      have hsz : τ.1 44 6 = nI T.length := by rw [hF _ _ (by omega)]; exact hX.1
      have hnx := ih (t + 1) (setI τ 46 (T.length + t) (nI (byt x (yi.toNat - 1 - t)))) (by omega) (fun a b h => by rw [setI_ne (by omega)]; exact hF a b h) hF2 (fun z c hz hc => by
        by_cases e : z = T.length + t
        · rw [e, setI_same]
          rw [e, List.getElem?_append_right (by omega), show T.length + t - T.length = t by omega, fdL_at (by omega)] at hc
          rw [Option.some.inj hc]
        · rw [setI_ne (by omega)]
          exact hb z c (by omega) hc)
      refine v_iload dX12_feed_31 rfl ?_
      refine v_iload_n dX12_feed_33 rfl ?_
      refine v_icmp_ge dX12_feed_34 (fun zc34 => ?_) (fun zc34 => ?_)
      · exact absurd zc34 (nI_ge (by omega) (by omega))
      · refine v_aload_n dX12_feed_37 rfl ?_
        refine v_getR (q := 46) dX12_feed_38 fl_RX12_17 rfl rfl ?_
        refine v_aload_n dX12_feed_41 rfl ?_
        refine v_getI dX12_feed_42 fl_RX12_73 rfl ?_
        rw [hsz]
        refine v_iload dX12_feed_45 rfl ?_
        refine v_iadd dX12_feed_47 ?_
        rw [nI_add]
        refine v_lload_n dX12_feed_48 rfl ?_
        refine v_bipush dX12_feed_49 ?_
        refine v_iload_n dX12_feed_51 rfl ?_
        refine v_iconst dX12_feed_52 ?_
        refine v_isub dX12_feed_53 ?_
        refine v_iload dX12_feed_54 rfl ?_
        refine v_isub dX12_feed_56 ?_
        refine v_imul dX12_feed_57 ?_
        rw [show (1 : Int32) = nI 1 from rfl, zI_sub (by omega), zI_sub (by omega), show (8 : Int32) = nI 8 from rfl, pk_mul]
        refine v_lshr dX12_feed_58 ?_
        refine v_ldc2 dX12_feed_59 cn_RX12_77 ?_
        refine v_land dX12_feed_62 ?_
        refine v_l2i dX12_feed_63 ?_
        rw [fd_m x (by omega)]
        refine v_iastore dX12_feed_64 rfl (by exact vp_in_nI (by omega) (by omega)) ?_
        rw [nI_clamp (by omega)]
        refine v_iinc dX12_feed_65 rfl (Nat.le_of_ble_eq_true rfl) rfl ?_
        refine v_goto dX12_feed_68 ?_
        rw [nI_1]
        exact hnx
  refine ok_enter rfl (Nat.le_of_ble_eq_true rfl) ?_
  refine v_iload_n dX12_feed_0 rfl ?_
  refine v_iconst dX12_feed_1 ?_
  refine v_bipush dX12_feed_2 ?_
  refine v_callS3 dX12_feed_4 ms_RX12_68 (Nat.le_of_ble_eq_true rfl) ?_
  refine ok_in ?_
  rw [hyi, show (1 : Int32).toInt = 1 from rfl, show (8 : Int32).toInt = 8 from rfl]
  show V _ _ _ _ (_ :: _) _ _
  refine v_if_ne dX12_feed_7 (fun zc7 => ?_) (fun zc7 => ?_)
  · have hz := if10 zc7
    refine v_aload_n dX12_feed_13 rfl ?_
    refine v_getI dX12_feed_14 fl_RX12_73 rfl ?_
    rw [hX.1]
    refine v_iload_n dX12_feed_17 rfl ?_
    refine v_iadd dX12_feed_18 ?_
    refine v_sipush dX12_feed_19 ?_
    rw [hye, iz_nI, iz_add, show (400 : Int32) = iz 400 from rfl]
    refine v_icmp_le dX12_feed_22 (fun zc22 => ?_) (fun zc22 => ?_)
    · rw [iz_le (by omega) (by omega) (by omega) (by omega)] at zc22
      refine v_iconst dX12_feed_28 ?_
      refine v_istore dX12_feed_29 (Nat.le_of_ble_eq_true rfl) rfl ?_
      rw [← hye]
      exact loop hz (by omega) yi.toNat 0 σ (by omega) (fun _ _ _ => rfl) rfl (fun z c hz hc => by rw [List.getElem?_append_left (by omega)] at hc; exact hX.2 z c hc)
    · rw [iz_le (by omega) (by omega) (by omega) (by omega)] at zc22
      refine v_ldc dX12_feed_25 cn_RX12_76 ?_
      refine v_ireturn dX12_feed_27 rfl (rfl) ?_
      exact h2 hz (by omega)
  · have hz := if01 zc7
    refine v_ldc dX12_feed_10 cn_RX12_72 ?_
    refine v_ireturn dX12_feed_12 rfl (rfl) ?_
    exact h1 hz
end FD
