/-! ===== a key that has lost its letter: the class's call ===== -/
def us (x k : Int32) : Int32 := (x.toUInt32 >>> (Int32.toUInt32 k &&& Int32.toUInt32 31)).toInt32
def bc1 (x : Int32) : Int32 := x - (us x 1 &&& 1431655765)
def bc2 (x : Int32) : Int32 := (x &&& 858993459) + (us x 2 &&& 858993459)
def bc3 (x : Int32) : Int32 := (x + us x 4) &&& 252645135
def bc4 (x : Int32) : Int32 := x + us x 8
def bc5 (x : Int32) : Int32 := x + us x 16
def TzF (σ τ : Wd) : Prop := (∀ a b, ¬ (39 ≤ a ∧ a ≤ 42) → τ.1 a b = σ.1 a b) ∧ τ.2 = σ.2
def blk (u k : Nat) : List Nat := (List.range k).filter (fun j => u.testBit j)
section CL2
variable {D : Nat} {σ τ υ : Wd} {Q : Option Value → Wd → Prop} {R : Rk} {s : St} {r n u d : Nat}
theorem ok_bitCount (hu : u < 256) (hQ : Q (some (.int (nI (bl u).length))) σ) : Ok D mJ6_bitCount_0f7a4 [.int (nI u)] σ Q := by
  have h : ∀ u, u < 256 → bc5 (bc4 (bc3 (bc2 (bc1 (nI u))))) &&& 63 = nI (bl u).length := by decide +kernel
  rw [← h u hu] at hQ
  refine ok_enter rfl (Nat.le_of_ble_eq_true rfl) ?_
  refine v_iload_n dJ6_bitCount_0f7a4_0 rfl ?_
  refine v_iload_n dJ6_bitCount_0f7a4_1 rfl ?_
  refine v_iconst dJ6_bitCount_0f7a4_2 ?_
  refine v_iushr dJ6_bitCount_0f7a4_3 ?_
  refine v_ldcw dJ6_bitCount_0f7a4_4 cn_RJ6_265 ?_
  refine v_iand dJ6_bitCount_0f7a4_7 ?_
  refine v_isub dJ6_bitCount_0f7a4_8 ?_
  refine v_istore_n dJ6_bitCount_0f7a4_9 (Nat.le_of_ble_eq_true rfl) rfl ?_
  refine v_iload_n dJ6_bitCount_0f7a4_10 rfl ?_
  refine v_ldcw dJ6_bitCount_0f7a4_11 cn_RJ6_266 ?_
  refine v_iand dJ6_bitCount_0f7a4_14 ?_
  refine v_iload_n dJ6_bitCount_0f7a4_15 rfl ?_
  refine v_iconst dJ6_bitCount_0f7a4_16 ?_
  refine v_iushr dJ6_bitCount_0f7a4_17 ?_
  refine v_ldcw dJ6_bitCount_0f7a4_18 cn_RJ6_266 ?_
  refine v_iand dJ6_bitCount_0f7a4_21 ?_
  refine v_iadd dJ6_bitCount_0f7a4_22 ?_
  refine v_istore_n dJ6_bitCount_0f7a4_23 (Nat.le_of_ble_eq_true rfl) rfl ?_
  refine v_iload_n dJ6_bitCount_0f7a4_24 rfl ?_
  refine v_iload_n dJ6_bitCount_0f7a4_25 rfl ?_
  refine v_iconst dJ6_bitCount_0f7a4_26 ?_
  refine v_iushr dJ6_bitCount_0f7a4_27 ?_
  refine v_iadd dJ6_bitCount_0f7a4_28 ?_
  refine v_ldcw dJ6_bitCount_0f7a4_29 cn_RJ6_267 ?_
  refine v_iand dJ6_bitCount_0f7a4_32 ?_
  refine v_istore_n dJ6_bitCount_0f7a4_33 (Nat.le_of_ble_eq_true rfl) rfl ?_
  refine v_iload_n dJ6_bitCount_0f7a4_34 rfl ?_
  refine v_iload_n dJ6_bitCount_0f7a4_35 rfl ?_
  refine v_bipush dJ6_bitCount_0f7a4_36 ?_
  refine v_iushr dJ6_bitCount_0f7a4_38 ?_
  refine v_iadd dJ6_bitCount_0f7a4_39 ?_
  refine v_istore_n dJ6_bitCount_0f7a4_40 (Nat.le_of_ble_eq_true rfl) rfl ?_
  refine v_iload_n dJ6_bitCount_0f7a4_41 rfl ?_
  refine v_iload_n dJ6_bitCount_0f7a4_42 rfl ?_
  refine v_bipush dJ6_bitCount_0f7a4_43 ?_
  refine v_iushr dJ6_bitCount_0f7a4_45 ?_
  refine v_iadd dJ6_bitCount_0f7a4_46 ?_
  refine v_istore_n dJ6_bitCount_0f7a4_47 (Nat.le_of_ble_eq_true rfl) rfl ?_
  refine v_iload_n dJ6_bitCount_0f7a4_48 rfl ?_
  refine v_bipush dJ6_bitCount_0f7a4_49 ?_
  refine v_iand dJ6_bitCount_0f7a4_51 ?_
  refine v_ireturn dJ6_bitCount_0f7a4_52 rfl (rfl) ?_
  exact hQ
theorem blk_s {k : Nat} : blk u (k + 1) = blk u k ++ (if u.testBit k then [k] else []) := by
  unfold blk
  rw [List.range_succ, List.filter_append, List.filter_cons, List.filter_nil]
theorem blk_len {k : Nat} : (blk u k).length ≤ k := by
  have := List.length_filter_le (fun j => u.testBit j) (List.range k)
  rwa [List.length_range] at this
theorem i32_n (x : Int32) : x = nI x.toBitVec.toNat := by
  apply Int32.toBitVec_inj.1
  show x.toBitVec = BitVec.ofNat 32 x.toBitVec.toNat
  rw [BitVec.ofNat_toNat, BitVec.setWidth_eq]
theorem i32_lt (x : Int32) : x.toBitVec.toNat < 4294967296 := x.toBitVec.isLt
theorem nI_z {v : Nat} (h : v < 4294967296) : nI v = 0 ↔ v = 0 := by
  constructor
  · intro e
    have e2 : (nI v).toBitVec.toNat = 0 := by rw [e]; rfl
    have e3 : (nI v).toBitVec.toNat = v % 4294967296 := BitVec.toNat_ofNat v 32
    omega
  · intro e; rw [e]; rfl
theorem nb_top {n K : Nat} (hK : K ≤ 8) (h : n < 4294967296) : n &&& (4294967296 - 2 ^ K) = 2 ^ K * (n / 2 ^ K) := by
  apply Nat.eq_of_testBit_eq
  intro i
  rw [Nat.testBit_and, Nat.testBit_two_pow_mul, Nat.testBit_div_two_pow]
  by_cases hi : i < 32
  · have hc : ∀ K, K ≤ 8 → ∀ j, j < 32 → Nat.testBit (4294967296 - 2 ^ K) j = decide (j ≥ K) := by decide
    rw [hc K hK i hi]
    by_cases h7 : K ≤ i
    · rw [show i - K + K = i by omega]
      simp [h7]
    · simp [h7]
  · have hz : n.testBit i = false := Nat.testBit_lt_two_pow (Nat.lt_of_lt_of_le h (Nat.pow_le_pow_right (n := 2) (by decide) (show 32 ≤ i by omega)))
    rw [hz, show i - K + K = i by omega, hz]
    simp
theorem x_cond {x : Int32} {K : Nat} (hK : K ≤ 8) : x.toBitVec.toNat < 2 ^ K ↔ (0 ≤ x.toInt ∧ x.toInt.toNat < 2 ^ K) := by
  have hlt := i32_lt x
  have hp : 2 ^ K ≤ 256 := Nat.pow_le_pow_right (n := 2) (by decide) hK
  have e : x.toInt = if 2 * x.toBitVec.toNat < 2 ^ 32 then (x.toBitVec.toNat : Int) else (x.toBitVec.toNat : Int) - (2 ^ 32 : Nat) := BitVec.toInt_eq_toNat_cond x.toBitVec
  rw [e]
  by_cases h : 2 * x.toBitVec.toNat < 2 ^ 32
  · rw [if_pos h]
    constructor
    · intro h1; exact ⟨by omega, by omega⟩
    · intro h1; omega
  · rw [if_neg h]
    constructor
    · intro h1; omega
    · intro h1; omega
theorem mask_le {x : Int32} {K : Nat} (hK : K ≤ 8) : (x &&& (((1 <<< (nI K &&& 31)) - 1) ^^^ (-1))) = 0 ↔ (0 ≤ x.toInt ∧ x.toInt.toNat < 2 ^ K) := by
  have hm : ∀ K, K ≤ 8 → (((1 : Int32) <<< (nI K &&& 31)) - 1) ^^^ (-1) = nI (4294967296 - 2 ^ K) := by decide +kernel
  have hlt := i32_lt x
  rw [hm K hK, ← x_cond hK]
  conv => lhs; rw [i32_n x]
  have hd : 2 ^ K * (x.toBitVec.toNat / 2 ^ K) ≤ x.toBitVec.toNat := Nat.mul_div_le _ _
  rw [nb_and, nb_top hK hlt, nI_z (by omega)]
  constructor
  · intro h
    rcases Nat.mul_eq_zero.mp h with h1 | h1
    · exact absurd h1 (Nat.ne_of_gt (Nat.two_pow_pos K))
    · rcases (Nat.div_eq_zero_iff).mp h1 with h2 | h2
      · exact absurd h2 (Nat.ne_of_gt (Nat.two_pow_pos K))
      · exact h2
  · intro h
    rw [Nat.div_eq_of_lt h, Nat.mul_zero]
theorem ok_fewestToTell (hr : vIsR r) (hR : RepR σ r R) (hv : vR 8 R) (hs : vS R.2.2.2.1 s) (hu : u < 2 ^ R.2.2.2.2.length) (hQ : ∀ τ f, TzF σ τ → LostIs R s u f → Q (some (.int (iz f))) τ) : Ok (D + 10) mX10_fewestToTell [.ref 39, .ref r, .int (nI (ps s)), .int (nI u)] σ Q := by
  have hnk := hv.n9
  have hu2 : u < 256 := Nat.lt_of_lt_of_le hu (Nat.pow_le_pow_right (n := 2) (by decide) hnk)
  have hRt : ∀ τ, TzF σ τ → RepR τ r R := fun τ h => hR.kept (fun a b q1 q2 => h.1 _ _ (by rcases hr with rfl | rfl <;> omega))
  have lens : ∀ j n τ, n + j = 5 → 1 ≤ n → TzF σ τ → TB τ u → TRow τ R s u 0 [] → (∀ m, 1 ≤ m → m < n → ¬ lsT R s u m) → V mX10_fewestToTell (D + 10) 80 [some (.ref 39), some (.ref r), some (.int (nI (ps s))), some (.int (nI u)), some (.int (nI n))] [] τ Q := by
    intro j
    induction j with
    | zero =>
      intro n τ hn h1 hF hT hW hno
      obtain rfl : n = 5 := by omega
      refine v_iload dX10_fewestToTell_80 rfl ?_
      refine v_iconst dX10_fewestToTell_82 ?_
      refine v_icmp_gt dX10_fewestToTell_83 (fun zc83 => ?_) (fun zc83 => ?_)
      · refine v_iconst dX10_fewestToTell_106 ?_
        refine v_ireturn dX10_fewestToTell_107 rfl (rfl) ?_
        exact hQ τ (-1) hF (Or.inl ⟨rfl, fun m h1 h2 => hno m h1 (by omega)⟩)
      · exact absurd zc83 (fun h => absurd (show (4 : Int32) < nI 5 by decide) h)
    | succ j ih =>
      intro n τ hn h1 hF hT hW hno
      refine v_iload dX10_fewestToTell_80 rfl ?_
      refine v_iconst dX10_fewestToTell_82 ?_
      refine v_icmp_gt dX10_fewestToTell_83 (fun zc83 => ?_) (fun zc83 => ?_)
      · rw [show (4 : Int32) = nI 4 from rfl, nI_ltI (by omega) (by omega)] at zc83; exfalso; omega
      · refine v_aload_n dX10_fewestToTell_86 rfl ?_
        refine v_aload_n dX10_fewestToTell_87 rfl ?_
        refine v_iconst dX10_fewestToTell_88 ?_
        refine v_iload dX10_fewestToTell_89 rfl ?_
        refine v_callS4 dX10_fewestToTell_91 ms_RX10_29 (Nat.le_of_ble_eq_true rfl) ?_
        refine ok_D (show D + 9 = (D + 4 - n) + 5 + n by omega) ?_
        refine ok_canTell n _ _ _ 0 n [] hr (hRt τ hF) hv hs hu hT hW (by omega) (by omega) rfl (fun k hk => absurd hk List.not_mem_nil) (fun τ2 b f1 f2 => ?_)
        have hF2 : TzF σ τ2 := ⟨fun x y h => by rw [f1.1 x y (by omega)]; exact hF.1 x y h, by rw [f1.2]; exact hF.2⟩
        show V _ _ _ _ (_ :: _) _ _
        refine v_if_eq dX10_fewestToTell_94 (fun zc94 => ?_) (fun zc94 => ?_)
        · refine v_iinc dX10_fewestToTell_100 rfl (Nat.le_of_ble_eq_true rfl) rfl ?_
          refine v_goto dX10_fewestToTell_103 ?_
          rw [nI_1]
          refine ih (n + 1) τ2 (by omega) (by omega) hF2 (f1.tb hT) (f1.row hW) (fun m h2 h3 => ?_)
          rcases Nat.lt_or_ge m n with h | h
          · exact hno m h2 h
          · have e : m = n := by omega
            subst e
            rcases f2 with ⟨h5, _⟩ | ⟨_, h5⟩
            · rw [zc94] at h5; exact absurd h5 (by decide)
            · exact h5
        · refine v_iload dX10_fewestToTell_97 rfl ?_
          refine v_ireturn dX10_fewestToTell_99 rfl (rfl) ?_
          rw [iz_nI]
          exact hQ τ2 n hF2 (Or.inr ⟨n, rfl, h1, by omega, (by rcases f2 with ⟨_, h⟩ | ⟨h, _⟩; exact h; exact absurd h zc94), hno⟩)
  have loop : ∀ j k τ, k + j = 8 → TzF σ τ → τ.1 39 3 = nI (blk u k).length → (∀ (i a : Nat), (blk u k)[i]? = some a → τ.1 42 i = nI a ∧ τ.1 40 i = nI (ps s) ∧ τ.1 41 i = 0) → V mX10_fewestToTell (D + 10) 8 [some (.ref 39), some (.ref r), some (.int (nI (ps s))), some (.int (nI u)), some (.int (nI k))] [] τ Q := by
    intro j
    induction j with
    | zero =>
      intro k τ hk hF h3 hr3
      obtain rfl : k = 8 := by omega
      have hgo := lens 4 1 τ rfl (by decide) hF ⟨h3, fun i a hi => (hr3 i a hi).1⟩ (fun i a hi => by rw [Nat.mul_zero, Nat.zero_add]; exact (hr3 i a hi).2) (fun m h1 h2 => by omega)
      refine v_iload dX10_fewestToTell_8 rfl ?_
      refine v_bipush dX10_fewestToTell_10 ?_
      refine v_icmp_ge dX10_fewestToTell_12 (fun zc12 => ?_) (fun zc12 => ?_)
      · refine v_iconst dX10_fewestToTell_77 ?_
        refine v_istore dX10_fewestToTell_78 (Nat.le_of_ble_eq_true rfl) rfl ?_
        exact hgo
      · exact absurd (show (8 : Int32) ≤ nI 8 by decide) zc12
    | succ j ih =>
      intro k τ hk hF h3 hr3
      have hbt := bitT hu2 (show k < 8 by omega)
      have hbl := blk_len (u := u) (k := k)
      have eb := blk_s (u := u) (k := k)
      refine v_iload dX10_fewestToTell_8 rfl ?_
      refine v_bipush dX10_fewestToTell_10 ?_
      refine v_icmp_ge dX10_fewestToTell_12 (fun zc12 => ?_) (fun zc12 => ?_)
      · rw [show (8 : Int32) = nI 8 from rfl, nI_leI (by omega) (by omega)] at zc12; exfalso; omega
      · refine v_iload_n dX10_fewestToTell_15 rfl ?_
        refine v_iload dX10_fewestToTell_16 rfl ?_
        refine v_ishr dX10_fewestToTell_18 ?_
        refine v_iconst dX10_fewestToTell_19 ?_
        refine v_iand dX10_fewestToTell_20 ?_
        rw [hbt]
        refine v_if_eq dX10_fewestToTell_21 (fun zc21 => ?_) (fun zc21 => ?_)
        · have hb : u.testBit k = false := by cases h : u.testBit k; rfl; (rw [h] at zc21; exact absurd zc21 (by decide))
          rw [hb] at eb
          refine v_iinc dX10_fewestToTell_71 rfl (Nat.le_of_ble_eq_true rfl) rfl ?_
          refine v_goto dX10_fewestToTell_74 ?_
          rw [nI_1]
          first | (refine ih (k + 1) τ (by omega) hF (by rw [eb, if_neg (by decide), List.append_nil]; exact h3) (fun i a hi => hr3 i a (by rw [eb, if_neg (by decide), List.append_nil] at hi; exact hi)); done) | (refine ih (k + 1) _ (by omega) ⟨fun x y h => by rw [setI_ne (by omega), setI_ne (by omega), setI_ne (by omega), setI_ne (by omega)]; exact hF.1 x y h, hF.2⟩ (by rw [setI_same, eb, List.length_append]; rfl) (fun i a hi => ?_); rcases Nat.lt_or_ge i (blk u k).length with h | h; (rw [eb, List.getElem?_append_left h] at hi; obtain ⟨q1, q2, q3⟩ := hr3 i a hi; have hne : ¬ i = (blk u k).length := (by omega); refine ⟨?_, ?_, ?_⟩ <;> simp [setI_get, hne, q1, q2, q3]); (rw [eb, List.getElem?_append_right h] at hi; have h9 := (List.getElem?_eq_some_iff.mp hi).1; rw [List.length_singleton] at h9; have e : i = (blk u k).length := (by omega); subst e; rw [Nat.sub_self] at hi; obtain rfl := Option.some.inj hi; refine ⟨?_, ?_, ?_⟩ <;> simp [setI_get]))
        · have hb : u.testBit k = true := by cases h : u.testBit k; (rw [h] at zc21; exact absurd rfl zc21); rfl
          rw [hb, if_pos rfl] at eb
          refine v_aload_n dX10_fewestToTell_24 rfl ?_
          refine v_getR (q := 42) dX10_fewestToTell_25 fl_RX10_18 rfl rfl ?_
          refine v_aload_n dX10_fewestToTell_28 rfl ?_
          refine v_getI dX10_fewestToTell_29 fl_RX10_21 rfl ?_
          rw [h3]
          refine v_iload dX10_fewestToTell_32 rfl ?_
          refine v_callS3 dX10_fewestToTell_34 ms_RX10_25 (Nat.le_of_ble_eq_true rfl) ?_
          refine ok_put rfl (by decide) ?_
          rw [wPut_nI (by omega) (by omega)]
          show V _ _ _ _ _ _ _
          refine v_aload_n dX10_fewestToTell_37 rfl ?_
          refine v_getR (q := 40) dX10_fewestToTell_38 fl_RX10_9 rfl rfl ?_
          refine v_aload_n dX10_fewestToTell_41 rfl ?_
          refine v_getI dX10_fewestToTell_42 fl_RX10_21 rfl ?_
          rw [setI_ne (by omega), h3]
          refine v_iload_n dX10_fewestToTell_45 rfl ?_
          refine v_callS3 dX10_fewestToTell_46 ms_RX10_25 (Nat.le_of_ble_eq_true rfl) ?_
          refine ok_put rfl (by decide) ?_
          rw [wPut_nI (by omega) (by omega)]
          show V _ _ _ _ _ _ _
          refine v_aload_n dX10_fewestToTell_49 rfl ?_
          refine v_getR (q := 41) dX10_fewestToTell_50 fl_RX10_15 rfl rfl ?_
          refine v_aload_n dX10_fewestToTell_53 rfl ?_
          refine v_getI dX10_fewestToTell_54 fl_RX10_21 rfl ?_
          rw [setI_ne (by omega), setI_ne (by omega), h3]
          refine v_iconst dX10_fewestToTell_57 ?_
          refine v_callS3 dX10_fewestToTell_58 ms_RX10_25 (Nat.le_of_ble_eq_true rfl) ?_
          refine ok_put rfl (by decide) ?_
          rw [wPut_nI (by omega) (by omega)]
          show V _ _ _ _ _ _ _
          refine v_aload_n dX10_fewestToTell_61 rfl ?_
          refine v_dup dX10_fewestToTell_62 rfl ?_
          refine v_getI dX10_fewestToTell_63 fl_RX10_21 rfl ?_
          rw [setI_ne (by omega), setI_ne (by omega), setI_ne (by omega), h3]
          refine v_iconst dX10_fewestToTell_66 ?_
          refine v_iadd dX10_fewestToTell_67 ?_
          rw [nI_1]
          refine v_putI dX10_fewestToTell_68 fp_RX10_21 rfl ?_
          refine v_iinc dX10_fewestToTell_71 rfl (Nat.le_of_ble_eq_true rfl) rfl ?_
          refine v_goto dX10_fewestToTell_74 ?_
          rw [nI_1]
          first | (refine ih (k + 1) τ (by omega) hF (by rw [eb, if_neg (by decide), List.append_nil]; exact h3) (fun i a hi => hr3 i a (by rw [eb, if_neg (by decide), List.append_nil] at hi; exact hi)); done) | (refine ih (k + 1) _ (by omega) ⟨fun x y h => by rw [setI_ne (by omega), setI_ne (by omega), setI_ne (by omega), setI_ne (by omega)]; exact hF.1 x y h, hF.2⟩ (by rw [setI_same, eb, List.length_append]; rfl) (fun i a hi => ?_); rcases Nat.lt_or_ge i (blk u k).length with h | h; (rw [eb, List.getElem?_append_left h] at hi; obtain ⟨q1, q2, q3⟩ := hr3 i a hi; have hne : ¬ i = (blk u k).length := (by omega); refine ⟨?_, ?_, ?_⟩ <;> simp [setI_get, hne, q1, q2, q3]); (rw [eb, List.getElem?_append_right h] at hi; have h9 := (List.getElem?_eq_some_iff.mp hi).1; rw [List.length_singleton] at h9; have e : i = (blk u k).length := (by omega); subst e; rw [Nat.sub_self] at hi; obtain rfl := Option.some.inj hi; refine ⟨?_, ?_, ?_⟩ <;> simp [setI_get]))
  refine ok_enter rfl (Nat.le_of_ble_eq_true rfl) ?_
  refine v_aload_n dX10_fewestToTell_0 rfl ?_
  refine v_iconst dX10_fewestToTell_1 ?_
  refine v_putI dX10_fewestToTell_2 fp_RX10_21 rfl ?_
  refine v_iconst dX10_fewestToTell_5 ?_
  refine v_istore dX10_fewestToTell_6 (Nat.le_of_ble_eq_true rfl) rfl ?_
  exact loop 8 0 _ rfl ⟨fun x y h => setI_ne (by omega), rfl⟩ (by rw [setI_same]; rfl) (fun i a hi => absurd hi (by show ¬ ([] : List Nat)[i]? = some a; simp))
theorem ok_clost {x : Int32} (hP : CP σ r R s) (hQ : ∀ τ w, TzF σ τ → LoA R s x.toInt w → Q (some (.int w)) τ) : Ok (D + 11) mX11_lost [.ref 0, .int x] σ Q := by
  obtain ⟨hr, hrk, hR, hv, hp0, hs⟩ := id hP
  have hnk := hv.n9
  have hmk := mask_le (x := x) hnk
  have hrf : TzF σ σ := ⟨fun _ _ _ => rfl, rfl⟩
  refine ok_enter rfl (Nat.le_of_ble_eq_true rfl) ?_
  refine v_iload_n dX11_lost_0 rfl ?_
  refine v_iconst dX11_lost_1 ?_
  refine v_aload_n dX11_lost_2 rfl ?_
  refine v_getM dX11_lost_3 fl_RX11_19 rfl ?_
  rw [hrk]
  refine v_getI dX11_lost_6 fl_RX11_146 hr.lay ?_
  rw [hR.2.2.2.2.1]
  refine v_ishl dX11_lost_9 ?_
  refine v_iconst dX11_lost_10 ?_
  refine v_isub dX11_lost_11 ?_
  refine v_iconst dX11_lost_12 ?_
  refine v_ixor dX11_lost_13 ?_
  refine v_iand dX11_lost_14 ?_
  refine v_if_eq dX11_lost_15 (fun zc15 => ?_) (fun zc15 => ?_)
  · rw [hmk] at zc15
    have hu2 : x.toInt.toNat < 256 := Nat.lt_of_lt_of_le zc15.2 (Nat.pow_le_pow_right (n := 2) (by decide) hnk)
    have ex := x_nI zc15.1
    have hb8 := bl_len (u := x.toInt.toNat)
    refine v_iload_n dX11_lost_21 rfl ?_
    refine v_callS1 dX11_lost_22 ms_RX11_255 (Nat.le_of_ble_eq_true rfl) ?_
    rw [show (Value.int x) = .int (nI x.toInt.toNat) by rw [← ex]]
    refine ok_bitCount hu2 ?_
    show V _ _ _ _ (_ :: _) _ _
    refine v_iconst dX11_lost_25 ?_
    refine v_icmp_ge dX11_lost_26 (fun zc26 => ?_) (fun zc26 => ?_)
    · rw [show (2 : Int32) = nI 2 from rfl, nI_leI (by omega) (by omega)] at zc26
      refine v_aload_n dX11_lost_32 rfl ?_
      refine v_getR (q := 39) dX11_lost_33 fl_RX11_86 rfl rfl ?_
      refine v_aload_n dX11_lost_36 rfl ?_
      refine v_getM dX11_lost_37 fl_RX11_19 rfl ?_
      rw [hrk]
      refine v_aload_n dX11_lost_40 rfl ?_
      refine v_getR (q := 13) dX11_lost_41 fl_RX11_29 rfl rfl ?_
      refine v_getI dX11_lost_44 fl_RX11_114 rfl ?_
      rw [hp0]
      refine v_iload_n dX11_lost_47 rfl ?_
      skip
      refine v_callV3 dX11_lost_48 mv_RX11_260 rfl rfl (Nat.le_of_ble_eq_true rfl) ?_
      refine ok_fewestToTell hr hR hv hs zc15.2 (fun τ f f1 f2 => ?_)
      show V _ _ _ _ (_ :: _) _ _
      refine v_ireturn dX11_lost_51 rfl (rfl) ?_
      exact hQ τ _ f1 (Or.inr (Or.inr ⟨zc15, by omega, f, f2, rfl⟩))
    · rw [show (2 : Int32) = nI 2 from rfl, nI_leI (by omega) (by omega)] at zc26
      refine v_ldc dX11_lost_29 cn_RX11_97 ?_
      refine v_ireturn dX11_lost_31 rfl (rfl) ?_
      exact hQ σ OUT hrf (Or.inr (Or.inl ⟨zc15, by omega, rfl⟩))
  · rw [hmk] at zc15
    refine v_ldc dX11_lost_18 cn_RX11_166 ?_
    refine v_ireturn dX11_lost_20 rfl (rfl) ?_
    exact hQ σ UNK hrf (Or.inl ⟨zc15, rfl⟩)
end CL2
