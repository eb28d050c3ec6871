/-! ===== a key that has lost its letter: the reference ===== -/
def dgs (B : Nat) : Nat → Nat → List Nat
  | _, 0 => []
  | row, n + 1 => row % B :: dgs B (row / B) n
section ML
variable {D : Nat} {σ τ υ : Wd} {Q : Option Value → Wd → Prop} {R : Rk} {s : St} {r n u d : Nat}
theorem dgs_ok : ∀ n row, okK R (dgs (R.2.2.2.2.length + 1) row n)
  | 0, _, k, h => absurd h List.not_mem_nil
  | n + 1, row, k, h => by
    have := Nat.mod_lt row (show 0 < R.2.2.2.2.length + 1 by omega)
    rcases List.mem_cons.mp h with e | e
    · omega
    · exact dgs_ok n _ k e
theorem dgs_len {B : Nat} : ∀ n row, (dgs B row n).length = n
  | 0, _ => rfl
  | n + 1, row => by show (dgs B _ n).length + 1 = _; rw [dgs_len n]
theorem dgs_all {B : Nat} (hB : 0 < B) : ∀ (ks : List Nat), (∀ k ∈ ks, k < B) → ∃ row, row < B ^ ks.length ∧ dgs B row ks.length = ks
  | [], _ => ⟨0, by simp, rfl⟩
  | k :: ks, h => by
    obtain ⟨row, h1, h2⟩ := dgs_all hB ks (fun j hj => h j (List.mem_cons_of_mem _ hj))
    have hk := h k (List.mem_cons_self ..)
    refine ⟨B * row + k, ?_, ?_⟩
    · rw [List.length_cons, Nat.pow_succ]
      have h3 : (row + 1) * B ≤ B ^ ks.length * B := Nat.mul_le_mul_right B h1
      rw [Nat.succ_mul, Nat.mul_comm row B] at h3
      omega
    · show (B * row + k) % B :: dgs B ((B * row + k) / B) ks.length = _
      rw [Nat.mul_add_mod, Nat.mod_eq_of_lt hk, Nat.mul_add_div hB, Nat.div_eq_of_lt hk, Nat.add_zero, h2]
theorem lsT_row {n : Nat} : lsT R s u n ↔ ∃ row, row < (R.2.2.2.2.length + 1) ^ n ∧ tel R s u (dgs (R.2.2.2.2.length + 1) row n) := by
  constructor
  · rintro ⟨ks, h1, h2, h3⟩
    obtain ⟨row, h4, h5⟩ := dgs_all (B := R.2.2.2.2.length + 1) (by omega) ks (fun k hk => by have := h2 k hk; omega)
    rw [h1] at h4 h5
    exact ⟨row, h4, by rw [h5]; exact h3⟩
  · rintro ⟨row, h1, h2⟩
    exact ⟨_, dgs_len n row, dgs_ok n row, h2⟩
theorem ok_has {k : Nat} (hu : u < 256) (hk : k < 8) (hQ : Q (some (.int (if u.testBit k then 1 else 0))) σ) : Ok D mX12_has [.int (nI u), .int (nI k)] σ Q := by
  refine ok_enter rfl (Nat.le_of_ble_eq_true rfl) ?_
  refine v_iload_n dX12_has_0 rfl ?_
  refine v_iload_n dX12_has_1 rfl ?_
  refine v_ishr dX12_has_2 ?_
  refine v_iconst dX12_has_3 ?_
  refine v_iand dX12_has_4 ?_
  refine v_iconst dX12_has_5 ?_
  rw [bitT hu hk]
  refine v_icmp_ne dX12_has_6 (fun zc6 => ?_) (fun zc6 => ?_)
  · refine v_iconst dX12_has_13 ?_
    refine v_ireturn dX12_has_14 rfl (rfl) ?_
    first | (rw [zc6] at hQ; exact hQ) | (rw [if_neg (fun h => zc6 (by rw [if_pos h]))] at hQ; exact hQ)
  · refine v_iconst dX12_has_9 ?_
    refine v_goto dX12_has_10 ?_
    refine v_ireturn dX12_has_14 rfl (rfl) ?_
    first | (rw [zc6] at hQ; exact hQ) | (rw [if_neg (fun h => zc6 (by rw [if_pos h]))] at hQ; exact hQ)
theorem ok_bits (hu : u < 256) (hQ : Q (some (.int (nI (bl u).length))) σ) : Ok D mX12_bits [.int (nI u)] σ Q := by
  have loop : ∀ j k, k + j = 8 → V mX12_bits D 4 [some (.int (nI u)), some (.int (nI (blk u k).length)), some (.int (nI k))] [] σ Q := by
    intro j
    induction j with
    | zero =>
      intro k hk
      obtain rfl : k = 8 := by omega
      refine v_iload_n dX12_bits_4 rfl ?_
      refine v_bipush dX12_bits_5 ?_
      refine v_icmp_ge dX12_bits_7 (fun zc7 => ?_) (fun zc7 => ?_)
      · refine v_iload_n dX12_bits_24 rfl ?_
        refine v_ireturn dX12_bits_25 rfl (rfl) ?_
        exact hQ
      · exact absurd (show (8 : Int32) ≤ nI 8 by decide) zc7
    | succ j ih =>
      intro k hk
      have hgo := ih (k + 1) (by omega)
      have eb := blk_s (u := u) (k := k)
      have e : nI (blk u k).length + (if u.testBit k then (1 : Int32) else 0) = nI (blk u (k + 1)).length := by
        rw [eb, List.length_append]
        cases u.testBit k
        · rw [if_neg (by decide), if_neg (by decide), show (0 : Int32) = nI 0 from rfl, nI_add]; rfl
        · rw [if_pos rfl, if_pos rfl, nI_1]; rfl
      refine v_iload_n dX12_bits_4 rfl ?_
      refine v_bipush dX12_bits_5 ?_
      refine v_icmp_ge dX12_bits_7 (fun zc7 => ?_) (fun zc7 => ?_)
      · rw [show (8 : Int32) = nI 8 from rfl, nI_leI (by omega) (by omega)] at zc7; exfalso; omega
      · refine v_iload_n dX12_bits_10 rfl ?_
        refine v_iload_n dX12_bits_11 rfl ?_
        refine v_iload_n dX12_bits_12 rfl ?_
        refine v_ishr dX12_bits_13 ?_
        refine v_iconst dX12_bits_14 ?_
        refine v_iand dX12_bits_15 ?_
        refine v_iadd dX12_bits_16 ?_
        rw [bitT hu (by omega), e]
        refine v_istore_n dX12_bits_17 (Nat.le_of_ble_eq_true rfl) rfl ?_
        refine v_iinc dX12_bits_18 rfl (Nat.le_of_ble_eq_true rfl) rfl ?_
        refine v_goto dX12_bits_21 ?_
        rw [nI_1]
        exact hgo
  refine ok_enter rfl (Nat.le_of_ble_eq_true rfl) ?_
  refine v_iconst dX12_bits_0 ?_
  refine v_istore_n dX12_bits_1 (Nat.le_of_ble_eq_true rfl) rfl ?_
  refine v_iconst dX12_bits_2 ?_
  refine v_istore_n dX12_bits_3 (Nat.le_of_ble_eq_true rfl) rfl ?_
  exact loop 8 0 rfl
theorem ok_shownBy {N row a : Nat} (hM : RepM σ R) (h4 : σ.1 44 4 = nI R.2.2.2.2.length) (hv : vR 8 R) (hS : RepS σ s) (hs : vS R.2.2.2.1 s) (hN : N ≤ 4) (hrow : row < 2147483648) (ha : a < R.2.2.2.2.length) (hQ : ∀ t, Q (some (.long (lN (bas 100 (rdS R a s (dgs (R.2.2.2.2.length + 1) row N)))))) (putS σ t)) : Ok (D + 3) mX12_shownBy [.ref 44, .int (nI row), .int (nI N), .int (nI a)] σ Q := by
  have hnk := hv.n9
  have loop : ∀ j i t left v x8, i + j = N → vS R.2.2.2.1 t → left < 2147483648 → bas 100 (rdS R a s (dgs (R.2.2.2.2.length + 1) row N)) = (rdS R a t (dgs (R.2.2.2.2.length + 1) left j)).foldl (fun v x => 100 * v + x) v → V mX12_shownBy (D + 3) 9 [some (.ref 44), some (.int (nI row)), some (.int (nI N)), some (.int (nI a)), some (.long (lN v)), none, some (.int (nI left)), some (.int (nI i)), x8] [] (putS σ t) Q := by
    intro j
    induction j with
    | zero =>
      intro i t left v x8 hi ht hl he
      have he2 : bas 100 (rdS R a s (dgs (R.2.2.2.2.length + 1) row N)) = v := he
      have hq := hQ t
      rw [he2] at hq
      refine v_iload dX12_shownBy_9 rfl ?_
      refine v_iload_n dX12_shownBy_11 rfl ?_
      refine v_icmp_ge dX12_shownBy_12 (fun zc12 => ?_) (fun zc12 => ?_)
      · refine v_lload dX12_shownBy_76 rfl ?_
        refine v_lreturn dX12_shownBy_78 rfl ?_
        exact hq
      · exact absurd (nI_le (by omega) (by omega)) zc12
    | succ j ih =>
      intro i t left v x8 hi ht hl he
      have hml := Nat.mod_lt left (show 0 < R.2.2.2.2.length + 1 by omega)
      have hdl : left / (R.2.2.2.2.length + 1) ≤ left := Nat.div_le_self _ _
      have hkk := kk_lt (k := left % (R.2.2.2.2.length + 1)) ha (by omega)
      have hky : R.2.2.2.2[kk R a (left % (R.2.2.2.2.length + 1))]? = some (R.2.2.2.2.getD (kk R a (left % (R.2.2.2.2.length + 1))) (0, 0, 0, 0)) := by rw [List.getD, List.getElem?_eq_getElem hkk]; rfl
      have hnv := nx_v hv hkk ht
      have hsh := hnv.1
      have hm := hv.m100
      have h44 : (putS σ t).1 44 4 = nI R.2.2.2.2.length := by rw [putS_o (by omega)]; exact h4
      have hgo := fun x8 => ih (i + 1) (nx R t (kk R a (left % (R.2.2.2.2.length + 1)))) (left / (R.2.2.2.2.length + 1)) (100 * v + (nx R t (kk R a (left % (R.2.2.2.2.length + 1)))).1) x8 (by omega) hnv (by omega) he
      have tail : ∀ x8, V mX12_shownBy (D + 3) 53 [some (.ref 44), some (.int (nI row)), some (.int (nI N)), some (.int (nI a)), some (.long (lN v)), none, some (.int (nI (left / (R.2.2.2.2.length + 1)))), some (.int (nI i)), x8] [.int (nI (kk R a (left % (R.2.2.2.2.length + 1)))), .ref 44] (putS σ t) Q := by
        intro x8
        refine v_callV1 dX12_shownBy_53 mv_RX12_226 rfl rfl (Nat.le_of_ble_eq_true rfl) ?_
        refine ok_doStroke hM.putS (show 8 ≤ 9 by decide) hv putS_rep ht.w hky ?_
        rw [putS_putS, show rk_str R t (R.2.2.2.2.getD (kk R a (left % (R.2.2.2.2.length + 1))) (0, 0, 0, 0)) = nx R t (kk R a (left % (R.2.2.2.2.length + 1))) from rfl]
        show V _ _ _ _ _ _ _
        refine v_ldc2 dX12_shownBy_56 cn_RX12_275 ?_
        refine v_lload dX12_shownBy_59 rfl ?_
        refine v_lmul dX12_shownBy_61 ?_
        refine v_aload_n dX12_shownBy_62 rfl ?_
        refine v_getI dX12_shownBy_63 fl_RX12_197 rfl ?_
        rw [putS_rep.1]
        refine v_i2l dX12_shownBy_66 ?_
        refine v_ladd dX12_shownBy_67 ?_
        rw [show (100 : Int64) = lN 100 from rfl, lN_mul, nI_l (by omega), lN_add]
        refine v_lstore dX12_shownBy_68 (Nat.le_of_ble_eq_true rfl) rfl ?_
        refine v_iinc dX12_shownBy_70 rfl (Nat.le_of_ble_eq_true rfl) rfl ?_
        refine v_goto dX12_shownBy_73 ?_
        rw [nI_1]
        exact hgo _
      refine v_iload dX12_shownBy_9 rfl ?_
      refine v_iload_n dX12_shownBy_11 rfl ?_
      refine v_icmp_ge dX12_shownBy_12 (fun zc12 => ?_) (fun zc12 => ?_)
      · exact absurd zc12 (nI_ge (by omega) (by omega))
      · refine v_iload dX12_shownBy_15 rfl ?_
        refine v_aload_n dX12_shownBy_17 rfl ?_
        refine v_getI dX12_shownBy_18 fl_RX12_182 rfl ?_
        rw [h44]
        refine v_iconst dX12_shownBy_21 ?_
        refine v_iadd dX12_shownBy_22 ?_
        rw [nI_1]
        refine v_irem dX12_shownBy_23 (by exact nI_ne0 (by omega) (by omega)) ?_
        rw [pk_rem (by omega) (by omega) (by omega)]
        refine v_istore dX12_shownBy_24 (Nat.le_of_ble_eq_true rfl) rfl ?_
        refine v_iload dX12_shownBy_26 rfl ?_
        refine v_aload_n dX12_shownBy_28 rfl ?_
        refine v_getI dX12_shownBy_29 fl_RX12_182 rfl ?_
        rw [h44]
        refine v_iconst dX12_shownBy_32 ?_
        refine v_iadd dX12_shownBy_33 ?_
        rw [nI_1]
        refine v_idiv dX12_shownBy_34 (by exact nI_ne0 (by omega) (by omega)) ?_
        rw [pk_div (by omega) (by omega) (by omega)]
        refine v_istore dX12_shownBy_35 (Nat.le_of_ble_eq_true rfl) rfl ?_
        refine v_aload_n dX12_shownBy_37 rfl ?_
        refine v_iload dX12_shownBy_38 rfl ?_
        refine v_aload_n dX12_shownBy_40 rfl ?_
        refine v_getI dX12_shownBy_41 fl_RX12_182 rfl ?_
        rw [h44]
        refine v_icmp_ne dX12_shownBy_44 (fun zc44 => ?_) (fun zc44 => ?_)
        · rw [nI_eq (by omega) (by omega)] at zc44
          refine v_iload dX12_shownBy_51 rfl ?_
          first | (have := tail (some (.int (nI (left % (R.2.2.2.2.length + 1))))); rw [show kk R a (left % (R.2.2.2.2.length + 1)) = a by unfold kk; rw [if_pos zc44]] at this; exact this) | (have := tail (some (.int (nI (left % (R.2.2.2.2.length + 1))))); rw [show kk R a (left % (R.2.2.2.2.length + 1)) = left % (R.2.2.2.2.length + 1) by unfold kk; rw [if_neg zc44]] at this; exact this)
        · rw [nI_eq (by omega) (by omega)] at zc44
          refine v_iload_n dX12_shownBy_47 rfl ?_
          refine v_goto dX12_shownBy_48 ?_
          first | (have := tail (some (.int (nI (left % (R.2.2.2.2.length + 1))))); rw [show kk R a (left % (R.2.2.2.2.length + 1)) = a by unfold kk; rw [if_pos zc44]] at this; exact this) | (have := tail (some (.int (nI (left % (R.2.2.2.2.length + 1))))); rw [show kk R a (left % (R.2.2.2.2.length + 1)) = left % (R.2.2.2.2.length + 1) by unfold kk; rw [if_neg zc44]] at this; exact this)
  refine ok_enter rfl (Nat.le_of_ble_eq_true rfl) ?_
  refine v_lconst dX12_shownBy_0 ?_
  refine v_lstore dX12_shownBy_1 (Nat.le_of_ble_eq_true rfl) rfl ?_
  refine v_iload_n dX12_shownBy_3 rfl ?_
  refine v_istore dX12_shownBy_4 (Nat.le_of_ble_eq_true rfl) rfl ?_
  refine v_iconst dX12_shownBy_6 ?_
  refine v_istore dX12_shownBy_7 (Nat.le_of_ble_eq_true rfl) rfl ?_
  have hl := loop N 0 s row 0 none (by omega) hs hrow rfl
  rw [putS_id hS] at hl
  exact hl
theorem tel_K {ks : List Nat} (hK : R.2.2.2.2.length ≤ 8) (hu : u < 2 ^ R.2.2.2.2.length) : tel R s u ks ↔ ∀ a b, b < a → a < R.2.2.2.2.length → u.testBit a = true → u.testBit b = true → rdS R a s ks ≠ rdS R b s ks := by
  constructor
  · intro h a b h1 h2 h3 h4
    exact h a (bl_mem.mpr ⟨by omega, h3⟩) b (bl_mem.mpr ⟨by omega, h4⟩) (by omega)
  · intro h a ha b hb hne
    have h1 := bl_K hu ha
    have h2 := bl_K hu hb
    have h3 := (bl_mem.mp ha).2
    have h4 := (bl_mem.mp hb).2
    rcases Nat.lt_trichotomy a b with e | e | e
    · exact (h b a e h2 h4 h3).symm
    · exact absurd e hne
    · exact h a b e h1 h3 h4
theorem lg_eq (x y : Int64) : lg_cmp x y = 0 ↔ x = y := by
  unfold lg_cmp
  constructor
  · intro h
    split at h
    · cases h
    · split at h
      · assumption
      · cases h
  · intro h
    subst h
    rw [if_neg (fun h => absurd (show x < x from h) (Int64.lt_irrefl)), if_pos rfl]
theorem if1t {b : Bool} (h : ¬ (if b = true then (1 : Int32) else 0) = 0) : b = true := if10 h
theorem if0f {b : Bool} (h : (if b = true then (1 : Int32) else 0) = 0) : b = false := by
  cases b
  · rfl
  · exact absurd h (by decide)
theorem ok_tells {N row : Nat} {t0 : St} (hM : RepM σ R) (h4 : σ.1 44 4 = nI R.2.2.2.2.length) (hv : vR 8 R) (hS : RepS σ t0) (hs : vS R.2.2.2.1 s) (hm : 0 < R.2.2.2.1) (hu : u < 2 ^ R.2.2.2.2.length) (hN : N ≤ 4) (hrow : row < 2147483648) (hQ : ∀ t b, isB b (tel R s u (dgs (R.2.2.2.2.length + 1) row N)) → Q (some (.int b)) (putS σ t)) : Ok (D + 4) mX12_tells [.ref 44, .int (nI row), .int (nI N), .int (nI u), .int (nI (mc R.2.2.2.1 s))] σ Q := by
  have hnk := hv.n9
  have hm2 := hv.m100
  have h8 := mm_le hm2
  have hnow := mc_lt hm hs.w
  have hu2 : u < 256 := Nat.lt_of_lt_of_le hu (Nat.pow_le_pow_right (n := 2) (by decide) hnk)
  have htk := tel_K (s := s) (ks := dgs (R.2.2.2.2.length + 1) row N) hnk hu
  have hbb : ∀ a, a < R.2.2.2.2.length → bas 100 (rdS R a s (dgs (R.2.2.2.2.length + 1) row N)) < 100000000 := fun a ha => by
    have h1 := bas_lt (B := 100) (l := rdS R a s (dgs (R.2.2.2.2.length + 1) row N)) (rdS_lt hv ha _ s (dgs_ok N row) hs)
    rw [rdS_len, dgs_len] at h1
    exact Nat.lt_of_lt_of_le h1 (Nat.pow_le_pow_right (n := 100) (by decide) hN)
  have hcmp : ∀ a b, a < R.2.2.2.2.length → b < R.2.2.2.2.length → (lN (bas 100 (rdS R a s (dgs (R.2.2.2.2.length + 1) row N))) = lN (bas 100 (rdS R b s (dgs (R.2.2.2.2.length + 1) row N))) ↔ rdS R a s (dgs (R.2.2.2.2.length + 1) row N) = rdS R b s (dgs (R.2.2.2.2.length + 1) row N)) := fun a b ha hb => by
    have h1 := hbb a ha
    have h2 := hbb b hb
    rw [lN_eq (by omega) (by omega)]
    exact bas_inj (by rw [rdS_len, rdS_len]) (rdS_lt hv ha _ s (dgs_ok N row) hs) (rdS_lt hv hb _ s (dgs_ok N row) hs)
  have h44 : ∀ t, (putS σ t).1 44 4 = nI R.2.2.2.2.length := fun t => by rw [putS_o (by omega)]; exact h4
  have h43 : ∀ t, (putS σ t).1 44 3 = nI R.2.2.2.1 := fun t => by rw [putS_o (by omega)]; exact hM.2.2.2.1
  have no : ∀ t x6 x7 x8 x9, ¬ tel R s u (dgs (R.2.2.2.2.length + 1) row N) → V mX12_tells (D + 4) 108 [some (.ref 44), some (.int (nI row)), some (.int (nI N)), some (.int (nI u)), some (.int (nI (mc R.2.2.2.1 s))), some (.int 0), x6, x7, x8, x9] [] (putS σ t) Q := by
    intro t x6 x7 x8 x9 h
    refine v_iload dX12_tells_108 rfl ?_
    refine v_ireturn dX12_tells_110 rfl (rfl) ?_
    exact hQ t 0 (Or.inr ⟨rfl, h⟩)
  have no6 : ∀ t a x7 x8 x9, ¬ tel R s u (dgs (R.2.2.2.2.length + 1) row N) → V mX12_tells (D + 4) 6 [some (.ref 44), some (.int (nI row)), some (.int (nI N)), some (.int (nI u)), some (.int (nI (mc R.2.2.2.1 s))), some (.int 0), some (.int (nI a)), x7, x8, x9] [] (putS σ t) Q := by
    intro t a x7 x8 x9 h
    refine v_iload dX12_tells_6 rfl ?_
    refine v_aload_n dX12_tells_8 rfl ?_
    refine v_getI dX12_tells_9 fl_RX12_182 rfl ?_
    refine v_icmp_ge dX12_tells_12 (fun zc12 => ?_) (fun zc12 => ?_)
    · exact no t _ _ _ _ h
    · refine v_iload dX12_tells_15 rfl ?_
      refine v_if_eq dX12_tells_17 (fun zc17 => ?_) (fun zc17 => ?_)
      · exact no t _ _ _ _ h
      · exact absurd rfl zc17
  have no23 : ∀ t a b x8 x9, ¬ tel R s u (dgs (R.2.2.2.2.length + 1) row N) → V mX12_tells (D + 4) 23 [some (.ref 44), some (.int (nI row)), some (.int (nI N)), some (.int (nI u)), some (.int (nI (mc R.2.2.2.1 s))), some (.int 0), some (.int (nI a)), some (.int (nI b)), x8, x9] [] (putS σ t) Q := by
    intro t a b x8 x9 h
    refine v_iload dX12_tells_23 rfl ?_
    refine v_iload dX12_tells_25 rfl ?_
    refine v_icmp_ge dX12_tells_27 (fun zc27 => ?_) (fun zc27 => ?_)
    · refine v_iinc dX12_tells_102 rfl (Nat.le_of_ble_eq_true rfl) rfl ?_
      refine v_goto dX12_tells_105 ?_
      rw [nI_1]
      exact no6 t (a + 1) _ _ _ h
    · refine v_iload dX12_tells_30 rfl ?_
      refine v_if_eq dX12_tells_32 (fun zc32 => ?_) (fun zc32 => ?_)
      · refine v_iinc dX12_tells_102 rfl (Nat.le_of_ble_eq_true rfl) rfl ?_
        refine v_goto dX12_tells_105 ?_
        rw [nI_1]
        exact no6 t (a + 1) _ _ _ h
      · exact absurd rfl zc32
  have loop : ∀ j a t x7 x8 x9, a + j = R.2.2.2.2.length → (∀ a' b', b' < a' → a' < a → u.testBit a' = true → u.testBit b' = true → rdS R a' s (dgs (R.2.2.2.2.length + 1) row N) ≠ rdS R b' s (dgs (R.2.2.2.2.length + 1) row N)) → V mX12_tells (D + 4) 6 [some (.ref 44), some (.int (nI row)), some (.int (nI N)), some (.int (nI u)), some (.int (nI (mc R.2.2.2.1 s))), some (.int 1), some (.int (nI a)), x7, x8, x9] [] (putS σ t) Q := by
    intro j
    induction j with
    | zero =>
      intro a t x7 x8 x9 ha hp
      refine v_iload dX12_tells_6 rfl ?_
      refine v_aload_n dX12_tells_8 rfl ?_
      refine v_getI dX12_tells_9 fl_RX12_182 rfl ?_
      rw [h44]
      refine v_icmp_ge dX12_tells_12 (fun zc12 => ?_) (fun zc12 => ?_)
      · refine v_iload dX12_tells_108 rfl ?_
        refine v_ireturn dX12_tells_110 rfl (rfl) ?_
        exact hQ t 1 (Or.inl ⟨rfl, htk.mpr (fun a' b' h1 h2 => hp a' b' h1 (by omega))⟩)
      · exact absurd (nI_le (by omega) (by omega)) zc12
    | succ j ih =>
      intro a t x7 x8 x9 ha hp
      have inner : ∀ l b t x8 x9, b + l = a → (∀ b', b' < b → u.testBit a = true → u.testBit b' = true → rdS R a s (dgs (R.2.2.2.2.length + 1) row N) ≠ rdS R b' s (dgs (R.2.2.2.2.length + 1) row N)) → V mX12_tells (D + 4) 23 [some (.ref 44), some (.int (nI row)), some (.int (nI N)), some (.int (nI u)), some (.int (nI (mc R.2.2.2.1 s))), some (.int 1), some (.int (nI a)), some (.int (nI b)), x8, x9] [] (putS σ t) Q := by
        intro l
        induction l with
        | zero =>
          intro b t x8 x9 hb hq
          have hgo := fun x7 => ih (a + 1) t x7 x8 x9 (by omega) (fun a' b' h1 h2 h3 h5 => by
            rcases Nat.lt_or_ge a' a with h | h
            · exact hp a' b' h1 h h3 h5
            · have e : a' = a := by omega
              subst e
              exact hq b' (by omega) h3 h5)
          refine v_iload dX12_tells_23 rfl ?_
          refine v_iload dX12_tells_25 rfl ?_
          refine v_icmp_ge dX12_tells_27 (fun zc27 => ?_) (fun zc27 => ?_)
          · refine v_iinc dX12_tells_102 rfl (Nat.le_of_ble_eq_true rfl) rfl ?_
            refine v_goto dX12_tells_105 ?_
            rw [nI_1]
            exact hgo _
          · exact absurd (nI_le (by omega) (by omega)) zc27
        | succ l ihl =>
          intro b t x8 x9 hb hq
          have hc := hcmp a b (by omega) (by omega)
          have hgo := fun t x8 x9 (hd : u.testBit a = true → u.testBit b = true → rdS R a s (dgs (R.2.2.2.2.length + 1) row N) ≠ rdS R b s (dgs (R.2.2.2.2.length + 1) row N)) => ihl (b + 1) t x8 x9 (by omega) (fun b' h1 h2 h3 => by
            rcases Nat.lt_or_ge b' b with h | h
            · exact hq b' h h2 h3
            · have e : b' = b := by omega
              subst e
              exact hd h2 h3)
          refine v_iload dX12_tells_23 rfl ?_
          refine v_iload dX12_tells_25 rfl ?_
          refine v_icmp_ge dX12_tells_27 (fun zc27 => ?_) (fun zc27 => ?_)
          · exact absurd zc27 (nI_ge (by omega) (by omega))
          · refine v_iload dX12_tells_30 rfl ?_
            refine v_if_eq dX12_tells_32 (fun zc32 => ?_) (fun zc32 => ?_)
            · exact absurd zc32 (by decide)
            · refine v_iload_n dX12_tells_35 rfl ?_
              refine v_iload dX12_tells_36 rfl ?_
              refine v_callS2 dX12_tells_38 ms_RX12_277 (Nat.le_of_ble_eq_true rfl) ?_
              refine ok_has hu2 (by omega) ?_
              show V _ _ _ _ (_ :: _) _ _
              refine v_if_eq dX12_tells_41 (fun zc41 => ?_) (fun zc41 => ?_)
              · refine v_iinc dX12_tells_96 rfl (Nat.le_of_ble_eq_true rfl) rfl ?_
                refine v_goto dX12_tells_99 ?_
                rw [nI_1]
                first | (exact hgo _ _ _ (fun h1 => absurd h1 (by rw [if0f zc41]; decide))) | (exact hgo _ _ _ (fun _ h1 => absurd h1 (by rw [if0f zc50]; decide))) | (exact hgo _ _ _ (fun _ _ => zc86)) | (exact no23 _ _ _ _ _ (fun ht => htk.mp ht a b (by omega) (by omega) (if1t zc41) (if1t zc50) zc86))
              · refine v_iload_n dX12_tells_44 rfl ?_
                refine v_iload dX12_tells_45 rfl ?_
                refine v_callS2 dX12_tells_47 ms_RX12_277 (Nat.le_of_ble_eq_true rfl) ?_
                refine ok_has hu2 (by omega) ?_
                show V _ _ _ _ (_ :: _) _ _
                refine v_if_eq dX12_tells_50 (fun zc50 => ?_) (fun zc50 => ?_)
                · refine v_iinc dX12_tells_96 rfl (Nat.le_of_ble_eq_true rfl) rfl ?_
                  refine v_goto dX12_tells_99 ?_
                  rw [nI_1]
                  first | (exact hgo _ _ _ (fun h1 => absurd h1 (by rw [if0f zc41]; decide))) | (exact hgo _ _ _ (fun _ h1 => absurd h1 (by rw [if0f zc50]; decide))) | (exact hgo _ _ _ (fun _ _ => zc86)) | (exact no23 _ _ _ _ _ (fun ht => htk.mp ht a b (by omega) (by omega) (if1t zc41) (if1t zc50) zc86))
                · refine v_aload_n dX12_tells_53 rfl ?_
                  refine v_iload dX12_tells_54 rfl ?_
                  refine v_callV1 dX12_tells_56 mv_RX12_223 rfl rfl (Nat.le_of_ble_eq_true rfl) ?_
                  refine ok_setState (h43 _) hm hm2 (by omega) ?_
                  rw [mdec_mc hm hs.w, putS_putS]
                  show V _ _ _ _ _ _ _
                  refine v_aload_n dX12_tells_59 rfl ?_
                  refine v_iload_n dX12_tells_60 rfl ?_
                  refine v_iload_n dX12_tells_61 rfl ?_
                  refine v_iload dX12_tells_62 rfl ?_
                  refine v_callV3 dX12_tells_64 mv_RX12_281 rfl rfl (Nat.le_of_ble_eq_true rfl) ?_
                  refine ok_shownBy hM.putS (h44 _) hv putS_rep hs hN hrow (show a < R.2.2.2.2.length by omega) (fun t1 => ?_)
                  rw [putS_putS]
                  show V _ _ _ _ (_ :: _) _ _
                  refine v_lstore dX12_tells_67 (Nat.le_of_ble_eq_true rfl) rfl ?_
                  refine v_aload_n dX12_tells_69 rfl ?_
                  refine v_iload dX12_tells_70 rfl ?_
                  refine v_callV1 dX12_tells_72 mv_RX12_223 rfl rfl (Nat.le_of_ble_eq_true rfl) ?_
                  refine ok_setState (h43 _) hm hm2 (by omega) ?_
                  rw [mdec_mc hm hs.w, putS_putS]
                  show V _ _ _ _ _ _ _
                  refine v_lload dX12_tells_75 rfl ?_
                  refine v_aload_n dX12_tells_77 rfl ?_
                  refine v_iload_n dX12_tells_78 rfl ?_
                  refine v_iload_n dX12_tells_79 rfl ?_
                  refine v_iload dX12_tells_80 rfl ?_
                  refine v_callV3 dX12_tells_82 mv_RX12_281 rfl rfl (Nat.le_of_ble_eq_true rfl) ?_
                  refine ok_shownBy hM.putS (h44 _) hv putS_rep hs hN hrow (show b < R.2.2.2.2.length by omega) (fun t2 => ?_)
                  rw [putS_putS]
                  show V _ _ _ _ (_ :: _) _ _
                  refine v_lcmp dX12_tells_85 ?_
                  refine v_if_eq dX12_tells_86 (fun zc86 => ?_) (fun zc86 => ?_)
                  · rw [lg_eq, hc] at zc86
                    refine v_iconst dX12_tells_93 ?_
                    refine v_istore dX12_tells_94 (Nat.le_of_ble_eq_true rfl) rfl ?_
                    refine v_iinc dX12_tells_96 rfl (Nat.le_of_ble_eq_true rfl) rfl ?_
                    refine v_goto dX12_tells_99 ?_
                    rw [nI_1]
                    first | (exact hgo _ _ _ (fun h1 => absurd h1 (by rw [if0f zc41]; decide))) | (exact hgo _ _ _ (fun _ h1 => absurd h1 (by rw [if0f zc50]; decide))) | (exact hgo _ _ _ (fun _ _ => zc86)) | (exact no23 _ _ _ _ _ (fun ht => htk.mp ht a b (by omega) (by omega) (if1t zc41) (if1t zc50) zc86))
                  · rw [lg_eq, hc] at zc86
                    refine v_iconst dX12_tells_89 ?_
                    refine v_goto dX12_tells_90 ?_
                    refine v_istore dX12_tells_94 (Nat.le_of_ble_eq_true rfl) rfl ?_
                    refine v_iinc dX12_tells_96 rfl (Nat.le_of_ble_eq_true rfl) rfl ?_
                    refine v_goto dX12_tells_99 ?_
                    rw [nI_1]
                    first | (exact hgo _ _ _ (fun h1 => absurd h1 (by rw [if0f zc41]; decide))) | (exact hgo _ _ _ (fun _ h1 => absurd h1 (by rw [if0f zc50]; decide))) | (exact hgo _ _ _ (fun _ _ => zc86)) | (exact no23 _ _ _ _ _ (fun ht => htk.mp ht a b (by omega) (by omega) (if1t zc41) (if1t zc50) zc86))
      refine v_iload dX12_tells_6 rfl ?_
      refine v_aload_n dX12_tells_8 rfl ?_
      refine v_getI dX12_tells_9 fl_RX12_182 rfl ?_
      rw [h44]
      refine v_icmp_ge dX12_tells_12 (fun zc12 => ?_) (fun zc12 => ?_)
      · exact absurd zc12 (nI_ge (by omega) (by omega))
      · refine v_iload dX12_tells_15 rfl ?_
        refine v_if_eq dX12_tells_17 (fun zc17 => ?_) (fun zc17 => ?_)
        · exact absurd zc17 (by decide)
        · refine v_iconst dX12_tells_20 ?_
          refine v_istore dX12_tells_21 (Nat.le_of_ble_eq_true rfl) rfl ?_
          exact inner a 0 t _ _ (by omega) (fun b' h => absurd h (by omega))
  refine ok_enter rfl (Nat.le_of_ble_eq_true rfl) ?_
  refine v_iconst dX12_tells_0 ?_
  refine v_istore dX12_tells_1 (Nat.le_of_ble_eq_true rfl) rfl ?_
  refine v_iconst dX12_tells_3 ?_
  refine v_istore dX12_tells_4 (Nat.le_of_ble_eq_true rfl) rfl ?_
  have hl := loop R.2.2.2.2.length 0 t0 none none none (by omega) (fun a' b' _ h => absurd h (by omega))
  rw [putS_id hS] at hl
  exact hl
theorem ok_mlost {x : Int32} (hP : MP σ R s) (hQ : ∀ w, LoA R s x.toInt w → Q (some (.int w)) σ) : Ok (D + 5) mX12_lost [.ref 44, .int x] σ Q := by
  obtain ⟨hM, h4, hv, hS, hs⟩ := id hP
  have hnk := hv.n9
  have hm2 := hv.m100
  have hp8 : 2 ^ R.2.2.2.2.length ≤ 256 := Nat.pow_le_pow_right (n := 2) (by decide) hnk
  have hp1 := Nat.two_pow_pos R.2.2.2.2.length
  obtain ⟨x1, x2⟩ := iz_rng x
  have main : (0 ≤ x.toInt ∧ x.toInt.toNat < 2 ^ R.2.2.2.2.length) → ¬ (bl x.toInt.toNat).length < 2 → V mX12_lost (D + 5) 30 [some (.ref 44), some (.int (nI x.toInt.toNat)), none, none, none, none, none] [] σ Q := by
    intro hx hb
    have hK : 0 < R.2.2.2.2.length := by
      rcases Nat.eq_zero_or_pos R.2.2.2.2.length with h | h
      · exfalso
        obtain ⟨y, hy⟩ := List.exists_mem_of_length_pos (show 0 < (bl x.toInt.toNat).length by omega)
        have := bl_K hx.2 hy
        omega
      · exact h
    have hm : 0 < R.2.2.2.1 := by
      rcases hv with e | ⟨v1, v2, v3, v4, v5, v6, v7, v8, v9⟩
      · rw [e] at hK; exact absurd hK (by decide)
      · omega
    have hb9 : ∀ n, n ≤ 4 → (R.2.2.2.2.length + 1) ^ n ≤ 6561 := fun n hn => Nat.le_trans (Nat.pow_le_pow_left (show R.2.2.2.2.length + 1 ≤ 9 by omega) n) (Nat.pow_le_pow_right (n := 9) (by decide) hn)
    have fin : ∀ f t x3 x5 x6, LostIs R s x.toInt.toNat f → V mX12_lost (D + 5) 112 [some (.ref 44), some (.int (nI x.toInt.toNat)), some (.int (nI (mc R.2.2.2.1 s))), x3, some (.int (iz f)), x5, x6] [] (putS σ t) Q := by
      intro f t x3 x5 x6 hf
      have h8 := mm_le hm2
      have hnow := mc_lt hm hs.w
      refine v_aload_n dX12_lost_112 rfl ?_
      refine v_iload_n dX12_lost_113 rfl ?_
      refine v_callV1 dX12_lost_114 mv_RX12_223 rfl rfl (Nat.le_of_ble_eq_true rfl) ?_
      refine ok_setState (by rw [putS_o (by omega)]; exact hM.2.2.2.1) hm hm2 (by omega) ?_
      rw [mdec_mc hm hs.w, putS_putS, putS_id hS]
      show V _ _ _ _ _ _ _
      refine v_iload dX12_lost_117 rfl ?_
      refine v_ireturn dX12_lost_119 rfl (rfl) ?_
      exact hQ _ (Or.inr (Or.inr ⟨hx, hb, f, hf, rfl⟩))
    have found : ∀ (n : Nat) t x3 x6, 1 ≤ n → n ≤ 4 → LostIs R s x.toInt.toNat n → V mX12_lost (D + 5) 106 [some (.ref 44), some (.int (nI x.toInt.toNat)), some (.int (nI (mc R.2.2.2.1 s))), x3, some (.int (nI n)), some (.int (nI n)), x6] [] (putS σ t) Q := by
      intro n t x3 x6 h1 h2 hf
      refine v_iinc dX12_lost_106 rfl (Nat.le_of_ble_eq_true rfl) rfl ?_
      refine v_goto dX12_lost_109 ?_
      refine v_iload dX12_lost_43 rfl ?_
      refine v_iconst dX12_lost_45 ?_
      refine v_icmp_ge dX12_lost_46 (fun zc46 => ?_) (fun zc46 => ?_)
      · rw [iz_nI n]
        exact fin _ t _ _ _ hf
      · refine v_iload dX12_lost_49 rfl ?_
        refine v_iconst dX12_lost_51 ?_
        refine v_icmp_ne dX12_lost_52 (fun zc52 => ?_) (fun zc52 => ?_)
        · rw [iz_nI n]
          exact fin _ t _ _ _ hf
        · exact absurd zc52 (by rw [iz_nI, show (-1 : Int32) = iz (-1) from rfl, iz_eq (by omega) (by omega) (by omega) (by omega)]; omega)
    have found67 : ∀ (n : Nat) t rows row, 1 ≤ n → n ≤ 4 → LostIs R s x.toInt.toNat n → V mX12_lost (D + 5) 67 [some (.ref 44), some (.int (nI x.toInt.toNat)), some (.int (nI (mc R.2.2.2.1 s))), some (.int rows), some (.int (nI n)), some (.int (nI n)), some (.int (nI row))] [] (putS σ t) Q := by
      intro n t rows row h1 h2 hf
      refine v_iload dX12_lost_67 rfl ?_
      refine v_iload_n dX12_lost_69 rfl ?_
      refine v_icmp_ge dX12_lost_70 (fun zc70 => ?_) (fun zc70 => ?_)
      · exact found n t _ _ h1 h2 hf
      · refine v_iload dX12_lost_73 rfl ?_
        refine v_iconst dX12_lost_75 ?_
        refine v_icmp_ne dX12_lost_76 (fun zc76 => ?_) (fun zc76 => ?_)
        · exact found n t _ _ h1 h2 hf
        · exact absurd zc76 (by rw [iz_nI, show (-1 : Int32) = iz (-1) from rfl, iz_eq (by omega) (by omega) (by omega) (by omega)]; omega)
    have outer : ∀ j n t x6, n + j = 5 → 1 ≤ n → (∀ m, 1 ≤ m → m < n → ¬ lsT R s x.toInt.toNat m) → V mX12_lost (D + 5) 43 [some (.ref 44), some (.int (nI x.toInt.toNat)), some (.int (nI (mc R.2.2.2.1 s))), some (.int (nI ((R.2.2.2.2.length + 1) ^ (n - 1)))), some (.int (iz (-1))), some (.int (nI n)), x6] [] (putS σ t) Q := by
      intro j
      induction j with
      | zero =>
        intro n t x6 hn h1 hno
        obtain rfl : n = 5 := by omega
        refine v_iload dX12_lost_43 rfl ?_
        refine v_iconst dX12_lost_45 ?_
        refine v_icmp_ge dX12_lost_46 (fun zc46 => ?_) (fun zc46 => ?_)
        · exact fin (-1) t _ _ _ (Or.inl ⟨rfl, fun m h1 h2 => hno m h1 (by omega)⟩)
        · exact absurd (show (5 : Int32) ≤ nI 5 by decide) zc46
      | succ j ih =>
        intro n t x6 hn h1 hno
        have epow : (R.2.2.2.2.length + 1) ^ (n - 1) * (R.2.2.2.2.length + 1) = (R.2.2.2.2.length + 1) ^ n := by obtain ⟨n', rfl⟩ : ∃ n', n = n' + 1 := ⟨n - 1, by omega⟩; exact (Nat.pow_succ ..).symm
        have h44 : (putS σ t).1 44 4 = nI R.2.2.2.2.length := by rw [putS_o (by omega)]; exact h4
        have hl9 := hb9 n (by omega)
        have inner : ∀ l row t, row + l = (R.2.2.2.2.length + 1) ^ n → (∀ row', row' < row → ¬ tel R s x.toInt.toNat (dgs (R.2.2.2.2.length + 1) row' n)) → V mX12_lost (D + 5) 67 [some (.ref 44), some (.int (nI x.toInt.toNat)), some (.int (nI (mc R.2.2.2.1 s))), some (.int (nI ((R.2.2.2.2.length + 1) ^ n))), some (.int (iz (-1))), some (.int (nI n)), some (.int (nI row))] [] (putS σ t) Q := by
          intro l
          induction l with
          | zero =>
            intro row t hr hq
            have hgo := fun x6 => ih (n + 1) t x6 (by omega) (by omega) (fun m h2 h3 => by
              rcases Nat.lt_or_ge m n with h | h
              · exact hno m h2 h
              · have e : m = n := by omega
                subst e
                intro hT
                obtain ⟨row', q1, q2⟩ := lsT_row.mp hT
                exact hq row' (by omega) q2)
            rw [show n + 1 - 1 = n from rfl] at hgo
            refine v_iload dX12_lost_67 rfl ?_
            refine v_iload_n dX12_lost_69 rfl ?_
            refine v_icmp_ge dX12_lost_70 (fun zc70 => ?_) (fun zc70 => ?_)
            · refine v_iinc dX12_lost_106 rfl (Nat.le_of_ble_eq_true rfl) rfl ?_
              refine v_goto dX12_lost_109 ?_
              rw [nI_1]
              exact hgo _
            · exact absurd (nI_le (by omega) (by omega)) zc70
          | succ l ihl =>
            intro row t hr hq
            have h44 : (putS σ t).1 44 4 = nI R.2.2.2.2.length := by rw [putS_o (by omega)]; exact h4
            refine v_iload dX12_lost_67 rfl ?_
            refine v_iload_n dX12_lost_69 rfl ?_
            refine v_icmp_ge dX12_lost_70 (fun zc70 => ?_) (fun zc70 => ?_)
            · exact absurd zc70 (nI_ge (by omega) (by omega))
            · refine v_iload dX12_lost_73 rfl ?_
              refine v_iconst dX12_lost_75 ?_
              refine v_icmp_ne dX12_lost_76 (fun zc76 => ?_) (fun zc76 => ?_)
              · exact absurd rfl zc76
              · refine v_aload_n dX12_lost_79 rfl ?_
                refine v_iload dX12_lost_80 rfl ?_
                refine v_iload dX12_lost_82 rfl ?_
                refine v_iload_n dX12_lost_84 rfl ?_
                refine v_iload_n dX12_lost_85 rfl ?_
                refine v_callV4 dX12_lost_86 mv_RX12_288 rfl rfl (Nat.le_of_ble_eq_true rfl) ?_
                refine ok_tells hM.putS h44 hv putS_rep hs hm hx.2 (by omega) (by omega) (fun t1 b hb2 => ?_)
                rw [putS_putS]
                show V _ _ _ _ (_ :: _) _ _
                refine v_if_eq dX12_lost_89 (fun zc89 => ?_) (fun zc89 => ?_)
                · refine v_iconst dX12_lost_97 ?_
                  refine v_istore dX12_lost_98 (Nat.le_of_ble_eq_true rfl) rfl ?_
                  refine v_iinc dX12_lost_100 rfl (Nat.le_of_ble_eq_true rfl) rfl ?_
                  refine v_goto dX12_lost_103 ?_
                  rw [nI_1]
                  first | (refine ihl (row + 1) t1 (by omega) (fun row' h => ?_); rcases Nat.lt_or_ge row' row with h3 | h3; exact hq row' h3; (have e : row' = row := (by omega)); subst e; rcases hb2 with ⟨h5, _⟩ | ⟨_, h5⟩; (rw [zc89] at h5; exact absurd h5 (by decide)); exact h5) | (exact found67 n t1 _ (row + 1) h1 (by omega) (Or.inr ⟨n, rfl, h1, by omega, lsT_row.mpr ⟨row, by omega, by rcases hb2 with ⟨_, h5⟩ | ⟨h5, _⟩; exact h5; exact absurd h5 zc89⟩, hno⟩))
                · refine v_iload dX12_lost_92 rfl ?_
                  refine v_goto dX12_lost_94 ?_
                  refine v_istore dX12_lost_98 (Nat.le_of_ble_eq_true rfl) rfl ?_
                  refine v_iinc dX12_lost_100 rfl (Nat.le_of_ble_eq_true rfl) rfl ?_
                  refine v_goto dX12_lost_103 ?_
                  rw [nI_1]
                  first | (refine ihl (row + 1) t1 (by omega) (fun row' h => ?_); rcases Nat.lt_or_ge row' row with h3 | h3; exact hq row' h3; (have e : row' = row := (by omega)); subst e; rcases hb2 with ⟨h5, _⟩ | ⟨_, h5⟩; (rw [zc89] at h5; exact absurd h5 (by decide)); exact h5) | (exact found67 n t1 _ (row + 1) h1 (by omega) (Or.inr ⟨n, rfl, h1, by omega, lsT_row.mpr ⟨row, by omega, by rcases hb2 with ⟨_, h5⟩ | ⟨h5, _⟩; exact h5; exact absurd h5 zc89⟩, hno⟩))
        refine v_iload dX12_lost_43 rfl ?_
        refine v_iconst dX12_lost_45 ?_
        refine v_icmp_ge dX12_lost_46 (fun zc46 => ?_) (fun zc46 => ?_)
        · rw [show (5 : Int32) = nI 5 from rfl, nI_leI (by omega) (by omega)] at zc46; exfalso; omega
        · refine v_iload dX12_lost_49 rfl ?_
          refine v_iconst dX12_lost_51 ?_
          refine v_icmp_ne dX12_lost_52 (fun zc52 => ?_) (fun zc52 => ?_)
          · exact absurd rfl zc52
          · refine v_iload_n dX12_lost_55 rfl ?_
            refine v_aload_n dX12_lost_56 rfl ?_
            refine v_getI dX12_lost_57 fl_RX12_182 rfl ?_
            rw [h44]
            refine v_iconst dX12_lost_60 ?_
            refine v_iadd dX12_lost_61 ?_
            refine v_imul dX12_lost_62 ?_
            rw [nI_1, pk_mul, epow]
            refine v_istore_n dX12_lost_63 (Nat.le_of_ble_eq_true rfl) rfl ?_
            refine v_iconst dX12_lost_64 ?_
            refine v_istore dX12_lost_65 (Nat.le_of_ble_eq_true rfl) rfl ?_
            exact inner ((R.2.2.2.2.length + 1) ^ n) 0 t (by omega) (fun row' h => absurd h (by omega))
    refine v_aload_n dX12_lost_30 rfl ?_
    refine v_callV0 dX12_lost_31 mv_RX12_229 rfl rfl (Nat.le_of_ble_eq_true rfl) ?_
    refine ok_stateNow hM.2.2.2.1 hS hs.w hm2 ?_
    show V _ _ _ _ (_ :: _) _ _
    refine v_istore_n dX12_lost_34 (Nat.le_of_ble_eq_true rfl) rfl ?_
    refine v_iconst dX12_lost_35 ?_
    refine v_istore_n dX12_lost_36 (Nat.le_of_ble_eq_true rfl) rfl ?_
    refine v_iconst dX12_lost_37 ?_
    refine v_istore dX12_lost_38 (Nat.le_of_ble_eq_true rfl) rfl ?_
    refine v_iconst dX12_lost_40 ?_
    refine v_istore dX12_lost_41 (Nat.le_of_ble_eq_true rfl) rfl ?_
    have hl := outer 4 1 s none (by omega) (by omega) (fun m h1 h2 => by omega)
    rw [putS_id hS] at hl
    exact hl
  refine ok_enter rfl (Nat.le_of_ble_eq_true rfl) ?_
  refine v_iload_n dX12_lost_0 rfl ?_
  refine v_iconst dX12_lost_1 ?_
  refine v_iconst dX12_lost_2 ?_
  refine v_aload_n dX12_lost_3 rfl ?_
  refine v_getI dX12_lost_4 fl_RX12_182 rfl ?_
  rw [h4]
  refine v_ishl dX12_lost_7 ?_
  refine v_iconst dX12_lost_8 ?_
  refine v_isub dX12_lost_9 ?_
  rw [sh1 (by omega), show nI (2 ^ R.2.2.2.2.length) - 1 = iz ((2 ^ R.2.2.2.2.length : Nat) - 1 : Int) by rw [iz_nI, show (1 : Int32) = iz 1 from rfl, iz_sub]]
  refine v_callS3 dX12_lost_10 ms_RX12_68 (Nat.le_of_ble_eq_true rfl) ?_
  refine ok_in ?_
  rw [iz_T0, iz_toInt (by omega) (by omega)]
  show V _ _ _ _ (_ :: _) _ _
  refine v_if_ne dX12_lost_13 (fun zc13 => ?_) (fun zc13 => ?_)
  · have hx0 := if10 zc13
    have hx : 0 ≤ x.toInt ∧ x.toInt.toNat < 2 ^ R.2.2.2.2.length := by omega
    have hb8 := bl_len (u := x.toInt.toNat)
    rw [show (Value.int x) = .int (nI x.toInt.toNat) by rw [← x_nI hx.1]]
    refine v_iload_n dX12_lost_19 rfl ?_
    refine v_callS1 dX12_lost_20 ms_RX12_285 (Nat.le_of_ble_eq_true rfl) ?_
    refine ok_bits (by omega) ?_
    show V _ _ _ _ (_ :: _) _ _
    refine v_iconst dX12_lost_23 ?_
    refine v_icmp_ge dX12_lost_24 (fun zc24 => ?_) (fun zc24 => ?_)
    · rw [show (2 : Int32) = nI 2 from rfl, nI_leI (by omega) (by omega)] at zc24
      exact main hx (by omega)
    · rw [show (2 : Int32) = nI 2 from rfl, nI_leI (by omega) (by omega)] at zc24
      refine v_ldc dX12_lost_27 cn_RX12_72 ?_
      refine v_ireturn dX12_lost_29 rfl (rfl) ?_
      exact hQ OUT (Or.inr (Or.inl ⟨hx, by omega, rfl⟩))
  · refine v_ldc dX12_lost_16 cn_RX12_210 ?_
    refine v_ireturn dX12_lost_18 rfl (rfl) ?_
    have hx := if01 zc13
    exact hQ UNK (Or.inl ⟨by omega, rfl⟩)
end ML
