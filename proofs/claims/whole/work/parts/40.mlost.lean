/-! ===== a key that has lost its letter: the reference ===== -/
def dgs (B : Nat) : Nat → Nat → List Nat
  | _, 0 => []
  | row, n + 1 => row % B :: dgs B (row / B) n
section ML
variable {D : Nat} {σ τ υ : Wd} {Q : Option Value → Wd → Prop} {R : Rk} {s : St} {r n u d : Nat}
theorem dgs_ok : ∀ n row, okK R (dgs (R.2.2.2.2.length + 1) row n)
  | 0, _, k, h => absurd h List.not_mem_nil
  | n + 1, row, k, h => by
    have := Nat.mod_lt row (show 0 < R.2.2.2.2.length + 1 by omega)
    rcases List.mem_cons.mp h with e | e
    · omega
    · exact dgs_ok n _ k e
theorem dgs_len {B : Nat} : ∀ n row, (dgs B row n).length = n
  | 0, _ => rfl
  | n + 1, row => by show (dgs B _ n).length + 1 = _; rw [dgs_len n]
theorem dgs_all {B : Nat} (hB : 0 < B) : ∀ (ks : List Nat), (∀ k ∈ ks, k < B) → ∃ row, row < B ^ ks.length ∧ dgs B row ks.length = ks
  | [], _ => ⟨0, by simp, rfl⟩
  | k :: ks, h => by
    obtain ⟨row, h1, h2⟩ := dgs_all hB ks (fun j hj => h j (List.mem_cons_of_mem _ hj))
    have hk := h k (List.mem_cons_self ..)
    refine ⟨B * row + k, ?_, ?_⟩
    · rw [List.length_cons, Nat.pow_succ]
      have h3 : (row + 1) * B ≤ B ^ ks.length * B := Nat.mul_le_mul_right B h1
      rw [Nat.succ_mul, Nat.mul_comm row B] at h3
      omega
    · show (B * row + k) % B :: dgs B ((B * row + k) / B) ks.length = _
      rw [Nat.mul_add_mod, Nat.mod_eq_of_lt hk, Nat.mul_add_div hB, Nat.div_eq_of_lt hk, Nat.add_zero, h2]
theorem lsT_row {n : Nat} : lsT R s u n ↔ ∃ row, row < (R.2.2.2.2.length + 1) ^ n ∧ tel R s u (dgs (R.2.2.2.2.length + 1) row n) := by
  constructor
  · rintro ⟨ks, h1, h2, h3⟩
    obtain ⟨row, h4, h5⟩ := dgs_all (B := R.2.2.2.2.length + 1) (by omega) ks (fun k hk => by have := h2 k hk; omega)
    rw [h1] at h4 h5
    exact ⟨row, h4, by rw [h5]; exact h3⟩
  · rintro ⟨row, h1, h2⟩
    exact ⟨_, dgs_len n row, dgs_ok n row, h2⟩
theorem ok_has {k : Nat} (hu : u < 256) (hk : k < 8) (hQ : Q (some (.int (if u.testBit k then 1 else 0))) σ) : Ok D mX12_has [.int (nI u), .int (nI k)] σ Q := by
  refine ok_enter rfl (Nat.le_of_ble_eq_true rfl) ?_
  refine v_iload_n dX12_has_0 rfl ?_
  refine v_iload_n dX12_has_1 rfl ?_
  refine v_ishr dX12_has_2 ?_
  refine v_iconst dX12_has_3 ?_
  refine v_iand dX12_has_4 ?_
  refine v_iconst dX12_has_5 ?_
  rw [bitT hu hk]
  refine v_icmp_ne dX12_has_6 (fun zc6 => ?_) (fun zc6 => ?_)
  · refine v_iconst dX12_has_13 ?_
    refine v_ireturn dX12_has_14 rfl (rfl) ?_
    first | (rw [zc6] at hQ; exact hQ) | (rw [if_neg (fun h => zc6 (by rw [if_pos h]))] at hQ; exact hQ)
  · refine v_iconst dX12_has_9 ?_
    refine v_goto dX12_has_10 ?_
    refine v_ireturn dX12_has_14 rfl (rfl) ?_
    first | (rw [zc6] at hQ; exact hQ) | (rw [if_neg (fun h => zc6 (by rw [if_pos h]))] at hQ; exact hQ)
theorem ok_bits (hu : u < 256) (hQ : Q (some (.int (nI (bl u).length))) σ) : Ok D mX12_bits [.int (nI u)] σ Q := by
  have loop : ∀ j k, k + j = 8 → V mX12_bits D 4 [some (.int (nI u)), some (.int (nI (blk u k).length)), some (.int (nI k))] [] σ Q := by
    intro j
    induction j with
    | zero =>
      intro k hk
      obtain rfl : k = 8 := by omega
      refine v_iload_n dX12_bits_4 rfl ?_
      refine v_bipush dX12_bits_5 ?_
      refine v_icmp_ge dX12_bits_7 (fun zc7 => ?_) (fun zc7 => ?_)
      · refine v_iload_n dX12_bits_24 rfl ?_
        refine v_ireturn dX12_bits_25 rfl (rfl) ?_
        exact hQ
      · exact absurd (show (8 : Int32) ≤ nI 8 by decide) zc7
    | succ j ih =>
      intro k hk
      have hgo := ih (k + 1) (by omega)
      have eb := blk_s (u := u) (k := k)
      have e : nI (blk u k).length + (if u.testBit k then (1 : Int32) else 0) = nI (blk u (k + 1)).length := by
        rw [eb, List.length_append]
        cases u.testBit k
        · rw [if_neg (by decide), if_neg (by decide), show (0 : Int32) = nI 0 from rfl, nI_add]; rfl
        · rw [if_pos rfl, if_pos rfl, nI_1]; rfl
      refine v_iload_n dX12_bits_4 rfl ?_
      refine v_bipush dX12_bits_5 ?_
      refine v_icmp_ge dX12_bits_7 (fun zc7 => ?_) (fun zc7 => ?_)
      · rw [show (8 : Int32) = nI 8 from rfl, nI_leI (by omega) (by omega)] at zc7; exfalso; omega
      · refine v_iload_n dX12_bits_10 rfl ?_
        refine v_iload_n dX12_bits_11 rfl ?_
        refine v_iload_n dX12_bits_12 rfl ?_
        refine v_ishr dX12_bits_13 ?_
        refine v_iconst dX12_bits_14 ?_
        refine v_iand dX12_bits_15 ?_
        refine v_iadd dX12_bits_16 ?_
        rw [bitT hu (by omega), e]
        refine v_istore_n dX12_bits_17 (Nat.le_of_ble_eq_true rfl) rfl ?_
        refine v_iinc dX12_bits_18 rfl (Nat.le_of_ble_eq_true rfl) rfl ?_
        refine v_goto dX12_bits_21 ?_
        rw [nI_1]
        exact hgo
  refine ok_enter rfl (Nat.le_of_ble_eq_true rfl) ?_
  refine v_iconst dX12_bits_0 ?_
  refine v_istore_n dX12_bits_1 (Nat.le_of_ble_eq_true rfl) rfl ?_
  refine v_iconst dX12_bits_2 ?_
  refine v_istore_n dX12_bits_3 (Nat.le_of_ble_eq_true rfl) rfl ?_
  exact loop 8 0 rfl
theorem ok_shownBy {N row a : Nat} (hM : RepM σ R) (h4 : σ.1 44 4 = nI R.2.2.2.2.length) (hv : vR 8 R) (hS : RepS σ s) (hs : vS R.2.2.2.1 s) (hN : N ≤ 4) (hrow : row < 2147483648) (ha : a < R.2.2.2.2.length) (hQ : ∀ t, Q (some (.long (lN (bas 100 (rdS R a s (dgs (R.2.2.2.2.length + 1) row N)))))) (putS σ t)) : Ok (D + 3) mX12_shownBy [.ref 44, .int (nI row), .int (nI N), .int (nI a)] σ Q := by
  have hnk := hv.n9
  have loop : ∀ j i t left v x8, i + j = N → vS R.2.2.2.1 t → left < 2147483648 → bas 100 (rdS R a s (dgs (R.2.2.2.2.length + 1) row N)) = (rdS R a t (dgs (R.2.2.2.2.length + 1) left j)).foldl (fun v x => 100 * v + x) v → V mX12_shownBy (D + 3) 9 [some (.ref 44), some (.int (nI row)), some (.int (nI N)), some (.int (nI a)), some (.long (lN v)), none, some (.int (nI left)), some (.int (nI i)), x8] [] (putS σ t) Q := by
    intro j
    induction j with
    | zero =>
      intro i t left v x8 hi ht hl he
      have he2 : bas 100 (rdS R a s (dgs (R.2.2.2.2.length + 1) row N)) = v := he
      have hq := hQ t
      rw [he2] at hq
      refine v_iload dX12_shownBy_9 rfl ?_
      refine v_iload_n dX12_shownBy_11 rfl ?_
      refine v_icmp_ge dX12_shownBy_12 (fun zc12 => ?_) (fun zc12 => ?_)
      · refine v_lload dX12_shownBy_76 rfl ?_
        refine v_lreturn dX12_shownBy_78 rfl ?_
        exact hq
      · exact absurd (nI_le (by omega) (by omega)) zc12
    | succ j ih =>
      intro i t left v x8 hi ht hl he
      have hml := Nat.mod_lt left (show 0 < R.2.2.2.2.length + 1 by omega)
      have hdl : left / (R.2.2.2.2.length + 1) ≤ left := Nat.div_le_self _ _
      have hkk := kk_lt (k := left % (R.2.2.2.2.length + 1)) ha (by omega)
      have hky : R.2.2.2.2[kk R a (left % (R.2.2.2.2.length + 1))]? = some (R.2.2.2.2.getD (kk R a (left % (R.2.2.2.2.length + 1))) (0, 0, 0, 0)) := by rw [List.getD, List.getElem?_eq_getElem hkk]; rfl
      have hnv := nx_v hv hkk ht
      have hsh := hnv.1
      have hm := hv.m100
      have h44 : (putS σ t).1 44 4 = nI R.2.2.2.2.length := by rw [putS_o (by omega)]; exact h4
      have hgo := fun x8 => ih (i + 1) (nx R t (kk R a (left % (R.2.2.2.2.length + 1)))) (left / (R.2.2.2.2.length + 1)) (100 * v + (nx R t (kk R a (left % (R.2.2.2.2.length + 1)))).1) x8 (by omega) hnv (by omega) he
      have tail : ∀ x8, V mX12_shownBy (D + 3) 53 [some (.ref 44), some (.int (nI row)), some (.int (nI N)), some (.int (nI a)), some (.long (lN v)), none, some (.int (nI (left / (R.2.2.2.2.length + 1)))), some (.int (nI i)), x8] [.int (nI (kk R a (left % (R.2.2.2.2.length + 1)))), .ref 44] (putS σ t) Q := by
        intro x8
        refine v_callV1 dX12_shownBy_53 mv_RX12_226 rfl rfl (Nat.le_of_ble_eq_true rfl) ?_
        refine ok_doStroke hM.putS (show 8 ≤ 9 by decide) hv putS_rep ht.w hky ?_
        rw [putS_putS, show rk_str R t (R.2.2.2.2.getD (kk R a (left % (R.2.2.2.2.length + 1))) (0, 0, 0, 0)) = nx R t (kk R a (left % (R.2.2.2.2.length + 1))) from rfl]
        show V _ _ _ _ _ _ _
        refine v_ldc2 dX12_shownBy_56 cn_RX12_275 ?_
        refine v_lload dX12_shownBy_59 rfl ?_
        refine v_lmul dX12_shownBy_61 ?_
        refine v_aload_n dX12_shownBy_62 rfl ?_
        refine v_getI dX12_shownBy_63 fl_RX12_197 rfl ?_
        rw [putS_rep.1]
        refine v_i2l dX12_shownBy_66 ?_
        refine v_ladd dX12_shownBy_67 ?_
        rw [show (100 : Int64) = lN 100 from rfl, lN_mul, nI_l (by omega), lN_add]
        refine v_lstore dX12_shownBy_68 (Nat.le_of_ble_eq_true rfl) rfl ?_
        refine v_iinc dX12_shownBy_70 rfl (Nat.le_of_ble_eq_true rfl) rfl ?_
        refine v_goto dX12_shownBy_73 ?_
        rw [nI_1]
        exact hgo _
      refine v_iload dX12_shownBy_9 rfl ?_
      refine v_iload_n dX12_shownBy_11 rfl ?_
      refine v_icmp_ge dX12_shownBy_12 (fun zc12 => ?_) (fun zc12 => ?_)
      · exact absurd zc12 (nI_ge (by omega) (by omega))
      · refine v_iload dX12_shownBy_15 rfl ?_
        refine v_aload_n dX12_shownBy_17 rfl ?_
        refine v_getI dX12_shownBy_18 fl_RX12_182 rfl ?_
        rw [h44]
        refine v_iconst dX12_shownBy_21 ?_
        refine v_iadd dX12_shownBy_22 ?_
        rw [nI_1]
        refine v_irem dX12_shownBy_23 (by exact nI_ne0 (by omega) (by omega)) ?_
        rw [pk_rem (by omega) (by omega) (by omega)]
        refine v_istore dX12_shownBy_24 (Nat.le_of_ble_eq_true rfl) rfl ?_
        refine v_iload dX12_shownBy_26 rfl ?_
        refine v_aload_n dX12_shownBy_28 rfl ?_
        refine v_getI dX12_shownBy_29 fl_RX12_182 rfl ?_
        rw [h44]
        refine v_iconst dX12_shownBy_32 ?_
        refine v_iadd dX12_shownBy_33 ?_
        rw [nI_1]
        refine v_idiv dX12_shownBy_34 (by exact nI_ne0 (by omega) (by omega)) ?_
        rw [pk_div (by omega) (by omega) (by omega)]
        refine v_istore dX12_shownBy_35 (Nat.le_of_ble_eq_true rfl) rfl ?_
        refine v_aload_n dX12_shownBy_37 rfl ?_
        refine v_iload dX12_shownBy_38 rfl ?_
        refine v_aload_n dX12_shownBy_40 rfl ?_
        refine v_getI dX12_shownBy_41 fl_RX12_182 rfl ?_
        rw [h44]
        refine v_icmp_ne dX12_shownBy_44 (fun zc44 => ?_) (fun zc44 => ?_)
        · rw [nI_eq (by omega) (by omega)] at zc44
          refine v_iload dX12_shownBy_51 rfl ?_
          first | (have := tail (some (.int (nI (left % (R.2.2.2.2.length + 1))))); rw [show kk R a (left % (R.2.2.2.2.length + 1)) = a by unfold kk; rw [if_pos zc44]] at this; exact this) | (have := tail (some (.int (nI (left % (R.2.2.2.2.length + 1))))); rw [show kk R a (left % (R.2.2.2.2.length + 1)) = left % (R.2.2.2.2.length + 1) by unfold kk; rw [if_neg zc44]] at this; exact this)
        · rw [nI_eq (by omega) (by omega)] at zc44
          refine v_iload_n dX12_shownBy_47 rfl ?_
          refine v_goto dX12_shownBy_48 ?_
          first | (have := tail (some (.int (nI (left % (R.2.2.2.2.length + 1))))); rw [show kk R a (left % (R.2.2.2.2.length + 1)) = a by unfold kk; rw [if_pos zc44]] at this; exact this) | (have := tail (some (.int (nI (left % (R.2.2.2.2.length + 1))))); rw [show kk R a (left % (R.2.2.2.2.length + 1)) = left % (R.2.2.2.2.length + 1) by unfold kk; rw [if_neg zc44]] at this; exact this)
  refine ok_enter rfl (Nat.le_of_ble_eq_true rfl) ?_
  refine v_lconst dX12_shownBy_0 ?_
  refine v_lstore dX12_shownBy_1 (Nat.le_of_ble_eq_true rfl) rfl ?_
  refine v_iload_n dX12_shownBy_3 rfl ?_
  refine v_istore dX12_shownBy_4 (Nat.le_of_ble_eq_true rfl) rfl ?_
  refine v_iconst dX12_shownBy_6 ?_
  refine v_istore dX12_shownBy_7 (Nat.le_of_ble_eq_true rfl) rfl ?_
  have hl := loop N 0 s row 0 none (by omega) hs hrow rfl
  rw [putS_id hS] at hl
  exact hl
end ML
