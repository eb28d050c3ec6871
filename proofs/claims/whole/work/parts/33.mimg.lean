/-! ===== images of the reference ===== -/
abbrev Pr := St × Int32 × Nat × List Nat
def cpW (σ : Wd) (p o q u k : Nat) : Wd := (fun a b => if a = p ∧ o ≤ b ∧ b < o + k then σ.1 q (b - o + u) else σ.1 a b, σ.2)
def PrM (σ : Wd) (x : Pr) : Prop := RepS σ x.1 ∧ σ.1 44 25 = x.2.1 ∧ σ.2.1 44 26 = lN x.2.2.1 ∧ σ.1 44 27 = nI x.2.2.2.length ∧ ∀ (k v : Nat), x.2.2.2[k]? = some v → σ.1 48 k = nI v
def ImM (σ : Wd) (m i : Nat) (x : Pr) : Prop := σ.1 50 (9 * i) = nI (mc m x.1) ∧ σ.1 50 (9 * i + 1) = x.2.1 ∧ σ.2.1 51 i = lN x.2.2.1 ∧ σ.1 50 (9 * i + 2) = nI x.2.2.2.length ∧ ∀ (k v : Nat), x.2.2.2[k]? = some v → σ.1 50 (9 * i + 3 + k) = nI v
def vP (m : Nat) (x : Pr) : Prop := vS m x.1 ∧ zS m x.1 ∧ x.2.2.1 < 2147483648 ∧ x.2.2.2.length ≤ 6 ∧ ∀ v ∈ x.2.2.2, v < m
section MI
variable {D : Nat} {σ τ : Wd} {Q : Option Value → Wd → Prop} {R : Rk} {s : St} {r n : Nat}
theorem setL_1 {k i : Nat} {x : Int64} : (setL σ k i x).1 = σ.1 := rfl
theorem cpW_0 {p o q u : Nat} : cpW σ p o q u 0 = σ := by
  refine Prod.ext (funext fun a => funext fun b => ?_) rfl
  show (if a = p ∧ o ≤ b ∧ b < o + 0 then _ else _) = _
  rw [if_neg (by omega)]
theorem cpW_o {p o q u k a b : Nat} (h : ¬ (a = p ∧ o ≤ b ∧ b < o + k)) : (cpW σ p o q u k).1 a b = σ.1 a b := if_neg h
theorem cpW_i {p o q u k b : Nat} (h1 : b < k) : (cpW σ p o q u k).1 p (o + b) = σ.1 q (u + b) := by
  show (if p = p ∧ o ≤ o + b ∧ o + b < o + k then σ.1 q (o + b - o + u) else _) = _
  rw [if_pos ⟨rfl, by omega, by omega⟩, show o + b - o + u = u + b by omega]
theorem cpW_s {p o q u k : Nat} : setI (cpW σ p o q u k) p (o + k) (σ.1 q (u + k)) = cpW σ p o q u (k + 1) := by
  refine Prod.ext (funext fun a => funext fun b => ?_) rfl
  rw [setI_get]
  by_cases h : a = p ∧ b = o + k
  · rw [if_pos h]
    obtain ⟨rfl, rfl⟩ := h
    exact (cpW_i (Nat.lt_succ_self k)).symm
  · rw [if_neg h]
    show (if a = p ∧ o ≤ b ∧ b < o + k then _ else _) = (if a = p ∧ o ≤ b ∧ b < o + (k + 1) then _ else _)
    by_cases h2 : a = p ∧ o ≤ b ∧ b < o + k
    · rw [if_pos h2, if_pos (by omega)]
    · rw [if_neg h2, if_neg (by omega)]
theorem ok_mkeep {x : Int32} {y : Pr} (hM : RepM σ R) (hm : R.2.2.2.1 ≤ 100) (hy : vP R.2.2.2.1 y) (hP : PrM σ y) (h1 : x.toInt ≠ 0 → x.toInt ≠ 1 → Q (some (.int UNK)) σ) (h2 : ∀ i : Nat, i < 2 → x.toInt = i → ∀ τ : Wd, (∀ a b, ¬ ((a = 50 ∧ 9 * i ≤ b ∧ b < 9 * i + 9) ∨ (a = 52 ∧ b = i)) → τ.1 a b = σ.1 a b) → (∀ a b, ¬ (a = 51 ∧ b = i) → τ.2.1 a b = σ.2.1 a b) → τ.2.2 = σ.2.2 → ImM τ R.2.2.2.1 i y → τ.1 52 i = 1 → Q (some (.int 1)) τ) : Ok (D + 1) mX12_keep [.ref 44, .int x] σ Q := by
  obtain ⟨hS, p1, p2, p3, p4⟩ := hP
  obtain ⟨y1, y2, y3, y4, y5⟩ := hy
  have body : ∀ i : Nat, i < 2 → x.toInt = i → V mX12_keep (D + 1) 12 [some (.ref 44), some (.int x), none] [] σ Q := by
    intro i hi hx
    have hq := h2 i hi hx
    have hxn : x = nI i := (x_nI (show 0 ≤ x.toInt by omega)).trans (by rw [hx]; rfl)
    subst hxn
    have e9 : (9 : Int32) * nI i = nI (9 * i) := by rw [show (9 : Int32) = nI 9 from rfl, pk_mul]
    have loop : ∀ (τ : Wd), (∀ a b, ¬ (a = 50 ∧ 9 * i ≤ b ∧ b < 9 * i + 3) → τ.1 a b = σ.1 a b) → τ.2 = σ.2 → τ.1 50 (9 * i) = nI (mc R.2.2.2.1 y.1) → τ.1 50 (9 * i + 1) = y.2.1 → τ.1 50 (9 * i + 2) = nI y.2.2.2.length → ∀ j k, k + j = 6 → V mX12_keep (D + 1) 57 [some (.ref 44), some (.int (nI i)), some (.int (nI k))] [] (cpW τ 50 (9 * i + 3) 48 0 k) Q := by
      intro τ t1 t2 t3 t4 t5 j
      have t2' : τ.2.1 = σ.2.1 := by rw [t2]
      induction j with
      | zero =>
        intro k hk
        obtain rfl : k = 6 := by omega
        refine v_iload_n dX12_keep_57 rfl ?_
        refine v_bipush dX12_keep_58 ?_
        refine v_icmp_ge dX12_keep_60 (fun zc60 => ?_) (fun zc60 => ?_)
        · refine v_aload_n dX12_keep_88 rfl ?_
          refine v_getR (q := 51) dX12_keep_89 fl_RX12_35 rfl rfl ?_
          refine v_iload_n dX12_keep_92 rfl ?_
          refine v_aload_n dX12_keep_93 rfl ?_
          refine v_getJ dX12_keep_94 fl_RX12_299 rfl ?_
          rw [show (cpW τ 50 (9 * i + 3) 48 0 6).2.1 44 26 = σ.2.1 44 26 by show τ.2.1 44 26 = _; rw [t2']]
          refine v_lastore dX12_keep_97 rfl (by exact vp_in_nI (by omega) (by omega)) ?_
          rw [nI_clamp (by omega)]
          refine v_aload_n dX12_keep_98 rfl ?_
          refine v_getR (q := 52) dX12_keep_99 fl_RX12_39 rfl rfl ?_
          refine v_iload_n dX12_keep_102 rfl ?_
          refine v_iconst dX12_keep_103 ?_
          refine v_bastore dX12_keep_104 rfl (by exact vp_in_nI (by omega) (by omega)) ?_
          rw [nI_clamp (by omega)]
          refine v_iconst dX12_keep_105 ?_
          refine v_ireturn dX12_keep_106 rfl (rfl) ?_
          refine hq _ (fun a b h => ?_) (fun a b h => ?_) ?_ ⟨?_, ?_, ?_, ?_, fun k v hv => ?_⟩ ?_
          · rw [setI_ne (by omega)]
            rw [setL_1]
            rw [cpW_o (by omega), t1 _ _ (by omega)]
          · show (if a = 51 ∧ b = i then _ else τ.2.1 a b) = _
            rw [if_neg h, t2']
          · show τ.2.2 = σ.2.2
            rw [t2]
          · rw [setI_ne (by omega)]
            rw [setL_1]
            rw [cpW_o (by omega), t3]
          · rw [setI_ne (by omega)]
            rw [setL_1]
            rw [cpW_o (by omega), t4]
          · show (if 51 = 51 ∧ i = i then σ.2.1 44 26 else _) = _
            rw [if_pos ⟨rfl, rfl⟩, p2]
          · rw [setI_ne (by omega)]
            rw [setL_1]
            rw [cpW_o (by omega), t5]
          · have hk := (List.getElem?_eq_some_iff.mp hv).1
            rw [setI_ne (by omega)]
            rw [setL_1]
            rw [cpW_i (by omega), Nat.zero_add, t1 _ _ (by omega), p4 k v hv]
          · rw [setI_same]; rfl
        · exact absurd zc60 (by decide)
      | succ j ih =>
        intro k hk
        have hnx := ih (k + 1) (by omega)
        rw [← cpW_s, Nat.zero_add] at hnx
        have e3 : (nI (9 * i) + 3 + nI k : Int32) = nI (9 * i + 3 + k) := by rw [show (3 : Int32) = nI 3 from rfl, nI_add, nI_add]
        refine v_iload_n dX12_keep_57 rfl ?_
        refine v_bipush dX12_keep_58 ?_
        refine v_icmp_ge dX12_keep_60 (fun zc60 => ?_) (fun zc60 => ?_)
        · exact absurd zc60 (by rw [show (6 : Int32) = nI 6 from rfl, nI_leI (by omega) (by omega)]; omega)
        · refine v_aload_n dX12_keep_63 rfl ?_
          refine v_getR (q := 50) dX12_keep_64 fl_RX12_32 rfl rfl ?_
          refine v_bipush dX12_keep_67 ?_
          refine v_iload_n dX12_keep_69 rfl ?_
          refine v_imul dX12_keep_70 ?_
          refine v_iconst dX12_keep_71 ?_
          refine v_iadd dX12_keep_72 ?_
          refine v_iload_n dX12_keep_73 rfl ?_
          refine v_iadd dX12_keep_74 ?_
          refine v_aload_n dX12_keep_75 rfl ?_
          refine v_getR (q := 48) dX12_keep_76 fl_RX12_26 rfl rfl ?_
          refine v_iload_n dX12_keep_79 rfl ?_
          refine v_iaload dX12_keep_80 rfl (by exact vp_in_nI (by omega) (by omega)) ?_
          rw [nI_clamp (by omega), cpW_o (by omega)]
          rw [e9, e3]
          refine v_iastore dX12_keep_81 rfl (by exact vp_in_nI (by omega) (by omega)) ?_
          rw [nI_clamp (by omega)]
          refine v_iinc dX12_keep_82 rfl (Nat.le_of_ble_eq_true rfl) rfl ?_
          refine v_goto dX12_keep_85 ?_
          rw [nI_1]
          exact hnx
    have ea : nI (9 * i) + 1 = nI (9 * i + 1) := nI_1 _
    have eb : nI (9 * i) + 2 = nI (9 * i + 2) := by rw [show (2 : Int32) = nI 2 from rfl, nI_add]
    refine v_aload_n dX12_keep_12 rfl ?_
    refine v_getR (q := 50) dX12_keep_13 fl_RX12_32 rfl rfl ?_
    refine v_bipush dX12_keep_16 ?_
    refine v_iload_n dX12_keep_18 rfl ?_
    refine v_imul dX12_keep_19 ?_
    refine v_aload_n dX12_keep_20 rfl ?_
    refine v_callV0 dX12_keep_21 mv_RX12_229 rfl rfl (Nat.le_of_ble_eq_true rfl) ?_
    refine ok_stateNow hM.2.2.2.1 hS y1.w hm ?_
    show V _ _ _ _ (_ :: _) _ _
    rw [e9]
    refine v_iastore dX12_keep_24 rfl (by exact vp_in_nI (by omega) (by omega)) ?_
    rw [nI_clamp (by omega)]
    refine v_aload_n dX12_keep_25 rfl ?_
    refine v_getR (q := 50) dX12_keep_26 fl_RX12_32 rfl rfl ?_
    refine v_bipush dX12_keep_29 ?_
    refine v_iload_n dX12_keep_31 rfl ?_
    refine v_imul dX12_keep_32 ?_
    refine v_iconst dX12_keep_33 ?_
    refine v_iadd dX12_keep_34 ?_
    refine v_aload_n dX12_keep_35 rfl ?_
    refine v_getI dX12_keep_36 fl_RX12_188 rfl ?_
    rw [setI_ne (by omega), p1]
    rw [e9, ea]
    refine v_iastore dX12_keep_39 rfl (by exact vp_in_nI (by omega) (by omega)) ?_
    rw [nI_clamp (by omega)]
    refine v_aload_n dX12_keep_40 rfl ?_
    refine v_getR (q := 50) dX12_keep_41 fl_RX12_32 rfl rfl ?_
    refine v_bipush dX12_keep_44 ?_
    refine v_iload_n dX12_keep_46 rfl ?_
    refine v_imul dX12_keep_47 ?_
    refine v_iconst dX12_keep_48 ?_
    refine v_iadd dX12_keep_49 ?_
    refine v_aload_n dX12_keep_50 rfl ?_
    refine v_getI dX12_keep_51 fl_RX12_191 rfl ?_
    rw [setI_ne (by omega), setI_ne (by omega), p3]
    rw [e9, eb]
    refine v_iastore dX12_keep_54 rfl (by exact vp_in_nI (by omega) (by omega)) ?_
    rw [nI_clamp (by omega)]
    refine v_iconst dX12_keep_55 ?_
    refine v_istore_n dX12_keep_56 (Nat.le_of_ble_eq_true rfl) rfl ?_
    have hl := loop (setI (setI (setI σ 50 (9 * i) (nI (mc R.2.2.2.1 y.1))) 50 (9 * i + 1) y.2.1) 50 (9 * i + 2) (nI y.2.2.2.length)) (fun a b h => by rw [setI_ne (by omega), setI_ne (by omega), setI_ne (by omega)]) rfl (by rw [setI_ne (by omega), setI_ne (by omega), setI_same]) (by rw [setI_ne (by omega), setI_same]) (by rw [setI_same]) 6 0 rfl
    rw [cpW_0] at hl
    exact hl
  refine ok_enter rfl (Nat.le_of_ble_eq_true rfl) ?_
  refine v_iload_n dX12_keep_0 rfl ?_
  refine v_iconst dX12_keep_1 ?_
  refine v_iconst dX12_keep_2 ?_
  refine v_callS3 dX12_keep_3 ms_RX12_68 (Nat.le_of_ble_eq_true rfl) ?_
  refine ok_in ?_
  rw [iz_T0, show ((1 : Int32)).toInt = 1 from rfl]
  show V _ _ _ _ (_ :: _) _ _
  refine v_if_ne dX12_keep_6 (fun zc6 => ?_) (fun zc6 => ?_)
  · have hx := if10 zc6
    exact body x.toInt.toNat (by omega) (by omega)
  · refine v_ldc dX12_keep_9 cn_RX12_210 ?_
    refine v_ireturn dX12_keep_11 rfl (rfl) ?_
    have hx := if01 zc6
    exact h1 (by omega) (by omega)
theorem ok_mgoBack {x : Int32} {y : Pr} (hM : RepM σ R) (hm : R.2.2.2.1 ≤ 100) (h1 : x.toInt ≠ 0 → x.toInt ≠ 1 → Q (some (.int UNK)) σ) (h2 : ∀ i : Nat, i < 2 → x.toInt = i → σ.1 52 i = 0 → Q (some (.int NOTN)) σ) (h3 : ∀ i : Nat, i < 2 → x.toInt = i → ¬ σ.1 52 i = 0 → vP R.2.2.2.1 y ∧ ImM σ R.2.2.2.1 i y ∧ ∀ τ : Wd, (∀ a b, ¬ (a = 48 ∨ (a = 44 ∧ 21 ≤ b ∧ b ≤ 25) ∨ (a = 44 ∧ b = 27)) → τ.1 a b = σ.1 a b) → (∀ a b, ¬ (a = 44 ∧ b = 26) → τ.2.1 a b = σ.2.1 a b) → τ.2.2 = σ.2.2 → PrM τ y → Q (some (.int 1)) τ) : Ok (D + 1) mX12_goBack [.ref 44, .int x] σ Q := by
  have body : ∀ i : Nat, i < 2 → x.toInt = i → V mX12_goBack (D + 1) 12 [some (.ref 44), some (.int x), none] [] σ Q := by
    intro i hi hx
    have hqn := h2 i hi hx
    have hqy := h3 i hi hx
    have hxn : x = nI i := (x_nI (show 0 ≤ x.toInt by omega)).trans (by rw [hx]; rfl)
    subst hxn
    have e9 : (9 : Int32) * nI i = nI (9 * i) := by rw [show (9 : Int32) = nI 9 from rfl, pk_mul]
    have go : ¬ σ.1 52 i = 0 → V mX12_goBack (D + 1) 25 [some (.ref 44), some (.int (nI i)), none] [] σ Q := by
      intro hkp
      obtain ⟨⟨y1, y2, y3, y4, y5⟩, ⟨m1, m2, m3, m4, m5⟩, hq⟩ := hqy hkp
      have loop : ∀ (τ : Wd), (∀ a b, ¬ ((a = 44 ∧ 21 ≤ b ∧ b ≤ 25) ∨ (a = 44 ∧ b = 27)) → τ.1 a b = σ.1 a b) → τ.2 = σ.2 → RepS τ y.1 → τ.1 44 25 = y.2.1 → τ.1 44 27 = nI y.2.2.2.length → ∀ j k, k + j = 6 → V mX12_goBack (D + 1) 70 [some (.ref 44), some (.int (nI i)), some (.int (nI k))] [] (cpW τ 48 0 50 (9 * i + 3) k) Q := by
        intro τ t1 t2 t3 t4 t5 j
        have t2' : τ.2.1 = σ.2.1 := by rw [t2]
        induction j with
        | zero =>
          intro k hk
          obtain rfl : k = 6 := by omega
          refine v_iload_n dX12_goBack_70 rfl ?_
          refine v_bipush dX12_goBack_71 ?_
          refine v_icmp_ge dX12_goBack_73 (fun zc73 => ?_) (fun zc73 => ?_)
          · refine v_aload_n dX12_goBack_101 rfl ?_
            refine v_aload_n dX12_goBack_102 rfl ?_
            refine v_getR (q := 51) dX12_goBack_103 fl_RX12_35 rfl rfl ?_
            refine v_iload_n dX12_goBack_106 rfl ?_
            refine v_laload dX12_goBack_107 rfl (by exact vp_in_nI (by omega) (by omega)) ?_
            rw [nI_clamp (by omega), show (cpW τ 48 0 50 (9 * i + 3) 6).2.1 51 i = σ.2.1 51 i by show τ.2.1 51 i = _; rw [t2'], m3]
            refine v_putJ dX12_goBack_108 fp_RX12_299 rfl ?_
            refine v_iconst dX12_goBack_111 ?_
            refine v_ireturn dX12_goBack_112 rfl (rfl) ?_
            obtain ⟨g1, g2, g3, g4⟩ := t3
            refine hq _ (fun a b h => ?_) (fun a b h => ?_) ?_ ⟨⟨?_, ?_, ?_, ?_⟩, ?_, ?_, ?_, fun k v hv => ?_⟩
            · rw [setL_1]
              rw [cpW_o (by omega), t1 _ _ (by omega)]
            · show (if a = 44 ∧ b = 26 then _ else τ.2.1 a b) = _
              rw [if_neg h, t2']
            · show τ.2.2 = σ.2.2
              rw [t2]
            · rw [setL_1]
              rw [cpW_o (by omega), g1]
            · rw [setL_1]
              rw [cpW_o (by omega), g2]
            · rw [setL_1]
              rw [cpW_o (by omega), g3]
            · rw [setL_1]
              rw [cpW_o (by omega), g4]
            · rw [setL_1]
              rw [cpW_o (by omega), t4]
            · exact setL_same
            · rw [setL_1]
              rw [cpW_o (by omega), t5]
            · have hk := (List.getElem?_eq_some_iff.mp hv).1
              rw [setL_1]
              have e := cpW_i (σ := τ) (p := 48) (o := 0) (q := 50) (u := 9 * i + 3) (show k < 6 by omega)
              rw [Nat.zero_add] at e
              rw [e, t1 _ _ (by omega), m5 k v hv]
          · exact absurd zc73 (by decide)
        | succ j ih =>
          intro k hk
          have hnx := ih (k + 1) (by omega)
          rw [← cpW_s, Nat.zero_add] at hnx
          have e3 : (nI (9 * i) + 3 + nI k : Int32) = nI (9 * i + 3 + k) := by rw [show (3 : Int32) = nI 3 from rfl, nI_add, nI_add]
          refine v_iload_n dX12_goBack_70 rfl ?_
          refine v_bipush dX12_goBack_71 ?_
          refine v_icmp_ge dX12_goBack_73 (fun zc73 => ?_) (fun zc73 => ?_)
          · exact absurd zc73 (by rw [show (6 : Int32) = nI 6 from rfl, nI_leI (by omega) (by omega)]; omega)
          · refine v_aload_n dX12_goBack_76 rfl ?_
            refine v_getR (q := 48) dX12_goBack_77 fl_RX12_26 rfl rfl ?_
            refine v_iload_n dX12_goBack_80 rfl ?_
            refine v_aload_n dX12_goBack_81 rfl ?_
            refine v_getR (q := 50) dX12_goBack_82 fl_RX12_32 rfl rfl ?_
            refine v_bipush dX12_goBack_85 ?_
            refine v_iload_n dX12_goBack_87 rfl ?_
            refine v_imul dX12_goBack_88 ?_
            refine v_iconst dX12_goBack_89 ?_
            refine v_iadd dX12_goBack_90 ?_
            refine v_iload_n dX12_goBack_91 rfl ?_
            refine v_iadd dX12_goBack_92 ?_
            rw [e9, e3]
            refine v_iaload dX12_goBack_93 rfl (by exact vp_in_nI (by omega) (by omega)) ?_
            rw [nI_clamp (by omega), cpW_o (by omega)]
            refine v_iastore dX12_goBack_94 rfl (by exact vp_in_nI (by omega) (by omega)) ?_
            rw [nI_clamp (by omega)]
            refine v_iinc dX12_goBack_95 rfl (Nat.le_of_ble_eq_true rfl) rfl ?_
            refine v_goto dX12_goBack_98 ?_
            rw [nI_1]
            exact hnx
      have ea : nI (9 * i) + 1 = nI (9 * i + 1) := nI_1 _
      have eb : nI (9 * i) + 2 = nI (9 * i + 2) := by rw [show (2 : Int32) = nI 2 from rfl, nI_add]
      refine v_aload_n dX12_goBack_25 rfl ?_
      refine v_aload_n dX12_goBack_26 rfl ?_
      refine v_getR (q := 50) dX12_goBack_27 fl_RX12_32 rfl rfl ?_
      refine v_bipush dX12_goBack_30 ?_
      refine v_iload_n dX12_goBack_32 rfl ?_
      refine v_imul dX12_goBack_33 ?_
      rw [e9]
      refine v_iaload dX12_goBack_34 rfl (by exact vp_in_nI (by omega) (by omega)) ?_
      rw [nI_clamp (by omega), m1]
      refine v_callV1 dX12_goBack_35 mv_RX12_223 rfl rfl (Nat.le_of_ble_eq_true rfl) ?_
      refine ok_setStateP hM.2.2.2.1 hm y1 y2 ?_
      show V _ _ _ _ _ _ _
      refine v_aload_n dX12_goBack_38 rfl ?_
      refine v_aload_n dX12_goBack_39 rfl ?_
      refine v_getR (q := 50) dX12_goBack_40 fl_RX12_32 rfl rfl ?_
      refine v_bipush dX12_goBack_43 ?_
      refine v_iload_n dX12_goBack_45 rfl ?_
      refine v_imul dX12_goBack_46 ?_
      refine v_iconst dX12_goBack_47 ?_
      refine v_iadd dX12_goBack_48 ?_
      rw [e9, ea]
      refine v_iaload dX12_goBack_49 rfl (by exact vp_in_nI (by omega) (by omega)) ?_
      rw [nI_clamp (by omega), putS_o (by omega), m2]
      refine v_putI dX12_goBack_50 fp_RX12_188 rfl ?_
      refine v_aload_n dX12_goBack_53 rfl ?_
      refine v_aload_n dX12_goBack_54 rfl ?_
      refine v_getR (q := 50) dX12_goBack_55 fl_RX12_32 rfl rfl ?_
      refine v_bipush dX12_goBack_58 ?_
      refine v_iload_n dX12_goBack_60 rfl ?_
      refine v_imul dX12_goBack_61 ?_
      refine v_iconst dX12_goBack_62 ?_
      refine v_iadd dX12_goBack_63 ?_
      rw [e9, eb]
      refine v_iaload dX12_goBack_64 rfl (by exact vp_in_nI (by omega) (by omega)) ?_
      rw [nI_clamp (by omega), setI_ne (by omega), putS_o (by omega), m4]
      refine v_putI dX12_goBack_65 fp_RX12_191 rfl ?_
      refine v_iconst dX12_goBack_68 ?_
      refine v_istore_n dX12_goBack_69 (Nat.le_of_ble_eq_true rfl) rfl ?_
      obtain ⟨g1, g2, g3, g4⟩ := putS_rep (σ := σ) (s := y.1)
      have hl := loop (setI (setI (putS σ y.1) 44 25 y.2.1) 44 27 (nI y.2.2.2.length)) (fun a b h => by rw [setI_ne (by omega), setI_ne (by omega), putS_o (by omega)]) rfl ⟨by rw [setI_ne (by omega), setI_ne (by omega), g1], by rw [setI_ne (by omega), setI_ne (by omega), g2], by rw [setI_ne (by omega), setI_ne (by omega), g3], by rw [setI_ne (by omega), setI_ne (by omega), g4]⟩ (by rw [setI_ne (by omega), setI_same]) (by rw [setI_same]) 6 0 rfl
      rw [cpW_0] at hl
      exact hl
    refine v_aload_n dX12_goBack_12 rfl ?_
    refine v_getR (q := 52) dX12_goBack_13 fl_RX12_39 rfl rfl ?_
    refine v_iload_n dX12_goBack_16 rfl ?_
    refine v_baload dX12_goBack_17 rfl (by exact vp_in_nI (by omega) (by omega)) ?_
    rw [nI_clamp (by omega)]
    refine v_if_ne dX12_goBack_18 (fun zc18 => ?_) (fun zc18 => ?_)
    · exact go zc18
    · refine v_ldcw dX12_goBack_21 cn_RX12_258 ?_
      refine v_ireturn dX12_goBack_24 rfl (rfl) ?_
      exact hqn zc18
  refine ok_enter rfl (Nat.le_of_ble_eq_true rfl) ?_
  refine v_iload_n dX12_goBack_0 rfl ?_
  refine v_iconst dX12_goBack_1 ?_
  refine v_iconst dX12_goBack_2 ?_
  refine v_callS3 dX12_goBack_3 ms_RX12_68 (Nat.le_of_ble_eq_true rfl) ?_
  refine ok_in ?_
  rw [iz_T0, show ((1 : Int32)).toInt = 1 from rfl]
  show V _ _ _ _ (_ :: _) _ _
  refine v_if_ne dX12_goBack_6 (fun zc6 => ?_) (fun zc6 => ?_)
  · have hx := if10 zc6
    exact body x.toInt.toNat (by omega) (by omega)
  · refine v_ldc dX12_goBack_9 cn_RX12_210 ?_
    refine v_ireturn dX12_goBack_11 rfl (rfl) ?_
    have hx := if01 zc6
    exact h1 (by omega) (by omega)
end MI
