/-! ===== present, rows, book ===== -/
section S2
variable {D : Nat} {σ : Wd} {Q : Option Value → Wd → Prop} {r : Nat} {R : Rk}
theorem ps_or4 {sh w h t : Nat} (h1 : sh < 128) (h2 : w < 4) (h3 : h < 128) : (nI sh ||| nI (65536 * t)) ||| (nI w <<< ((14 : Int32) &&& 31)) ||| (nI h <<< ((7 : Int32) &&& 31)) = nI (ps (sh, w, h, t)) := by
  rw [pk_shlN _ 14 rfl (by omega), pk_shlN _ 7 rfl (by omega), Int32.or_comm (nI sh), show (65536 : Nat) = 2 ^ 16 from rfl, Int32.or_assoc, Int32.or_assoc, Int32.or_comm (nI sh), Int32.or_assoc, Nat.mul_comm w, Nat.mul_comm h, nb_add 7 (by omega), nb_add 14 (by omega), nb_add 16 (by omega)]
  congr 1
  unfold ps
  dsimp only
  omega
theorem ps_or2 {sh t : Nat} (h1 : sh < 128) : (nI sh ||| nI (65536 * t)) = nI (ps (sh, 0, 0, t)) := by
  rw [Int32.or_comm (nI sh), show (65536 : Nat) = 2 ^ 16 from rfl, nb_add 16 (by omega)]
  congr 1
theorem ok_stateAt {m p : Nat} (hr : vIsR r) (h3 : σ.1 r 3 = nI m) (hm0 : 0 < m) (hm : m ≤ 100) (hp : p < 60200) (hw : p / 2 / m < 1 + 3 * m) (hQ : Q (some (.int (nI (ps (stAt m p))))) σ) : Ok D mX6_stateAt [.ref r, .int (nI p)] σ Q := by
  have hlay := hr.lay
  have hm1 := Nat.mod_lt (p / 2) hm0
  have hm2 := Nat.mod_lt (p / 2 / m - 1) hm0
  have hm3 : (p / 2 / m - 1) / m < 3 := by
    rw [Nat.div_lt_iff_lt_mul hm0]
    omega
  have hd0 : p / 2 / m ≤ p / 2 := Nat.div_le_self _ _
  have tail : ∀ (w : Int32), w = nI (65536 * (p % 2)) → V mX6_stateAt D 40 [some (.ref r), some (.int (nI p)), some (.int (nI (p / 2 % m))), some (.int (nI (p / 2 / m))), none, none] [.int w, .int (nI (p / 2 % m))] σ Q := by
    intro w hw
    subst hw
    unfold stAt at hQ
    refine v_ior dX6_stateAt_40 ?_
    refine v_istore dX6_stateAt_41 (Nat.le_of_ble_eq_true rfl) rfl ?_
    refine v_iload_n dX6_stateAt_43 rfl ?_
    refine v_if_ne dX6_stateAt_44 (fun zc44 => ?_) (fun zc44 => ?_)
    · rw [show (0 : Int32) = nI 0 from rfl, nI_eq (by omega) (by omega)] at zc44
      refine v_iconst dX6_stateAt_50 ?_
      refine v_iload_n dX6_stateAt_51 rfl ?_
      refine v_iconst dX6_stateAt_52 ?_
      refine v_isub dX6_stateAt_53 ?_
      rw [show (1 : Int32) = nI 1 from rfl, pk_sub (b := 1) (Nat.pos_of_ne_zero zc44)]
      refine v_aload_n dX6_stateAt_54 rfl ?_
      refine v_getI dX6_stateAt_55 fl_RX6_21 hlay ?_
      rw [h3]
      refine v_idiv dX6_stateAt_58 (by exact nI_ne0 hm0 (by omega)) ?_
      rw [pk_div (by omega) hm0 (by omega)]
      refine v_iadd dX6_stateAt_59 ?_
      rw [nI_add]
      refine v_istore dX6_stateAt_60 (Nat.le_of_ble_eq_true rfl) rfl ?_
      refine v_iload dX6_stateAt_62 rfl ?_
      refine v_iload dX6_stateAt_64 rfl ?_
      refine v_bipush dX6_stateAt_66 ?_
      refine v_ishl dX6_stateAt_68 ?_
      refine v_ior dX6_stateAt_69 ?_
      refine v_iload_n dX6_stateAt_70 rfl ?_
      refine v_iconst dX6_stateAt_71 ?_
      refine v_isub dX6_stateAt_72 ?_
      rw [show (1 : Int32) = nI 1 from rfl, pk_sub (b := 1) (Nat.pos_of_ne_zero zc44)]
      refine v_aload_n dX6_stateAt_73 rfl ?_
      refine v_getI dX6_stateAt_74 fl_RX6_21 hlay ?_
      rw [h3]
      refine v_irem dX6_stateAt_77 (by exact nI_ne0 hm0 (by omega)) ?_
      rw [pk_rem (by omega) hm0 (by omega)]
      refine v_bipush dX6_stateAt_78 ?_
      refine v_ishl dX6_stateAt_80 ?_
      refine v_ior dX6_stateAt_81 ?_
      refine v_ireturn dX6_stateAt_82 rfl (rfl) ?_
      rw [if_neg (by omega)] at hQ
      rw [ps_or4 (by omega) (by omega) (by omega)]
      exact hQ
    · rw [show (0 : Int32) = nI 0 from rfl, nI_eq (by omega) (by omega)] at zc44
      refine v_iload dX6_stateAt_47 rfl ?_
      refine v_ireturn dX6_stateAt_49 rfl (rfl) ?_
      rw [if_pos (by omega)] at hQ
      rw [ps_or2 (by omega)]
      exact hQ
  refine ok_enter rfl (Nat.le_of_ble_eq_true rfl) ?_
  refine v_aload_n dX6_stateAt_0 rfl ?_
  refine v_getI dX6_stateAt_1 fl_RX6_21 hlay ?_
  rw [h3]
  refine v_if_gt dX6_stateAt_4 (fun zc4 => ?_) (fun zc4 => ?_)
  · refine v_iload_n dX6_stateAt_9 rfl ?_
    refine v_iconst dX6_stateAt_10 ?_
    refine v_idiv dX6_stateAt_11 (by decide) ?_
    rw [show (2 : Int32) = nI 2 from rfl, pk_div (by omega) (by omega) (by omega)]
    refine v_aload_n dX6_stateAt_12 rfl ?_
    refine v_getI dX6_stateAt_13 fl_RX6_21 hlay ?_
    rw [h3]
    refine v_irem dX6_stateAt_16 (by exact nI_ne0 hm0 (by omega)) ?_
    rw [pk_rem (by omega) hm0 (by omega)]
    refine v_istore_n dX6_stateAt_17 (Nat.le_of_ble_eq_true rfl) rfl ?_
    refine v_iload_n dX6_stateAt_18 rfl ?_
    refine v_iconst dX6_stateAt_19 ?_
    refine v_idiv dX6_stateAt_20 (by decide) ?_
    rw [show (2 : Int32) = nI 2 from rfl, pk_div (by omega) (by omega) (by omega)]
    refine v_aload_n dX6_stateAt_21 rfl ?_
    refine v_getI dX6_stateAt_22 fl_RX6_21 hlay ?_
    rw [h3]
    refine v_idiv dX6_stateAt_25 (by exact nI_ne0 hm0 (by omega)) ?_
    rw [pk_div (by omega) hm0 (by omega)]
    refine v_istore_n dX6_stateAt_26 (Nat.le_of_ble_eq_true rfl) rfl ?_
    refine v_iload_n dX6_stateAt_27 rfl ?_
    refine v_iload_n dX6_stateAt_28 rfl ?_
    refine v_iconst dX6_stateAt_29 ?_
    refine v_irem dX6_stateAt_30 (by decide) ?_
    rw [show (2 : Int32) = nI 2 from rfl, pk_rem (by omega) (by omega) (by omega)]
    refine v_if_ne dX6_stateAt_31 (fun zc31 => ?_) (fun zc31 => ?_)
    · rw [show (0 : Int32) = nI 0 from rfl, nI_eq (by omega) (by omega)] at zc31
      refine v_ldc dX6_stateAt_38 cn_RX6_78 ?_
      refine tail _ ?_
      first | (rw [show p % 2 = 0 by omega]; rfl) | (rw [show p % 2 = 1 by omega]; rfl)
    · rw [show (0 : Int32) = nI 0 from rfl, nI_eq (by omega) (by omega)] at zc31
      refine v_iconst dX6_stateAt_34 ?_
      refine v_goto dX6_stateAt_35 ?_
      refine tail _ ?_
      first | (rw [show p % 2 = 0 by omega]; rfl) | (rw [show p % 2 = 1 by omega]; rfl)
  · exact absurd (show (0 : Int32) < nI m from nI_lt (a := 0) (by omega) (by omega)) zc4
/-! images -/
def vIsP (p : Nat) : Prop := p = 13 ∨ p = 15 ∨ p = 17
theorem vIsP.lay {p : Nat} (h : vIsP p) : vm_lay[p]? = some (0, 5) := by rcases h with rfl | rfl | rfl <;> rfl
theorem vIsP.l1 {p : Nat} (h : vIsP p) : vm_lay[p + 1]? = some (1, 6) := by rcases h with rfl | rfl | rfl <;> rfl
theorem vIsP.q5 {p : Nat} (h : vIsP p) : (vm_crs.getD p []).getD 5 0 = p + 1 := by rcases h with rfl | rfl | rfl <;> rfl
def wBec (σ : Wd) (p q n : Nat) : Wd := (fun a b => if a = p ∧ b < 4 then σ.1 q b else if a = p + 1 ∧ b < n then σ.1 (q + 1) b else σ.1 a b, σ.2)
theorem ok_become {p q : Nat} (hp : vIsP p) (hq : vIsP q) (hne : p ≠ q) (hQ : Q none (wBec σ p q 6)) : Ok (D + 1) mX5_become [.ref p, .ref q] σ Q := by
  have lp := hp.lay
  have lq := hq.lay
  have hne2 : q ≠ p + 1 ∧ q + 1 ≠ p := by rcases hp with rfl | rfl | rfl <;> rcases hq with rfl | rfl | rfl <;> omega
  have e0 : setI (setI (setI (setI σ p 0 (σ.1 q 0)) p 1 (σ.1 q 1)) p 2 (σ.1 q 2)) p 3 (σ.1 q 3) = wBec σ p q 0 := by
    unfold wBec
    refine Prod.ext (funext fun a => funext fun b => ?_) rfl
    simp only [setI_get]
    by_cases ha : a = p
    · subst ha
      by_cases hb : b < 4
      · rcases (show b = 0 ∨ b = 1 ∨ b = 2 ∨ b = 3 by omega) with rfl | rfl | rfl | rfl <;> simp
      · simp [hb, show ¬ b = 0 by omega, show ¬ b = 1 by omega, show ¬ b = 2 by omega, show ¬ b = 3 by omega]
    · simp [ha]
  have e1 : ∀ i, setI (wBec σ p q i) (p + 1) i (σ.1 (q + 1) i) = wBec σ p q (i + 1) := by
    intro i
    unfold wBec
    refine Prod.ext (funext fun a => funext fun b => ?_) rfl
    simp only [setI_get]
    by_cases ha : a = p + 1
    · subst ha
      by_cases hb : b = i
      · subst hb; simp
      · by_cases hc : b < i
        · simp [hb, hc, show b < i + 1 by omega]
        · simp [hb, hc, show ¬ b < i + 1 by omega]
    · simp [ha]
  have e2 : ∀ i, (wBec σ p q i).1 (q + 1) i = σ.1 (q + 1) i := by
    intro i
    unfold wBec
    simp [hne2.2, show ¬ q = p from fun e => hne e.symm]
  have loop : ∀ j i, i + j = 6 → V mX5_become (D + 1) 34 [some (.ref p), some (.ref q), some (.int (nI i))] [] (wBec σ p q i) Q := by
    intro j
    induction j with
    | zero =>
      intro i hi
      rw [show i = 6 by omega]
      refine v_iload_n dX5_become_34 rfl ?_
      refine v_bipush dX5_become_35 ?_
      refine v_icmp_ge dX5_become_37 (fun zc37 => ?_) (fun zc37 => ?_)
      · refine v_return dX5_become_62 rfl ?_
        exact hQ
      · exact absurd (show (6 : Int32) ≤ nI 6 by decide) zc37
    | succ j ih =>
      intro i hi
      refine v_iload_n dX5_become_34 rfl ?_
      refine v_bipush dX5_become_35 ?_
      refine v_icmp_ge dX5_become_37 (fun zc37 => ?_) (fun zc37 => ?_)
      · exact absurd zc37 (nI_ge (b := 6) (by omega) (by omega))
      · refine v_aload_n dX5_become_40 rfl ?_
        refine v_getR dX5_become_41 fl_RX5_28 lp hp.q5 ?_
        refine v_iload_n dX5_become_44 rfl ?_
        refine v_aload_n dX5_become_45 rfl ?_
        refine v_getR dX5_become_46 fl_RX5_28 lq hq.q5 ?_
        refine v_iload_n dX5_become_49 rfl ?_
        refine v_callS2 dX5_become_50 ms_RX5_32 (Nat.le_of_ble_eq_true rfl) ?_
        refine ok_at hq.l1 (by omega) ?_
        rw [vAt_nI (by omega) (by omega), e2]
        show V _ _ _ _ (_ :: _) _ _
        refine v_callS3 dX5_become_53 ms_RX5_36 (Nat.le_of_ble_eq_true rfl) ?_
        refine ok_put hp.l1 (by omega) ?_
        unfold wPut
        rw [nI_toInt (by omega), if_pos (by omega), show ((i : Int)).toNat = i from rfl, e1]
        show V _ _ _ _ _ _ _
        refine v_iinc dX5_become_56 rfl (Nat.le_of_ble_eq_true rfl) rfl ?_
        refine v_goto dX5_become_59 ?_
        rw [nI_1]
        exact ih (i + 1) (by omega)
  have hx : ∀ (τ : Wd) (k i b : Nat) (x : Int32), k ≠ q → (setI τ k i x).1 q b = τ.1 q b := fun τ k i b x h => setI_ne (by omega)
  refine ok_enter rfl (Nat.le_of_ble_eq_true rfl) ?_
  refine v_aload_n dX5_become_0 rfl ?_
  refine v_aload_n dX5_become_1 rfl ?_
  refine v_getI dX5_become_2 fl_RX5_9 lq ?_
  refine v_putI dX5_become_5 fp_RX5_9 lp ?_
  refine v_aload_n dX5_become_8 rfl ?_
  refine v_aload_n dX5_become_9 rfl ?_
  refine v_getI dX5_become_10 fl_RX5_15 lq ?_
  rw [hx _ _ _ _ _ hne]
  refine v_putI dX5_become_13 fp_RX5_15 lp ?_
  refine v_aload_n dX5_become_16 rfl ?_
  refine v_aload_n dX5_become_17 rfl ?_
  refine v_getI dX5_become_18 fl_RX5_18 lq ?_
  rw [hx _ _ _ _ _ hne, hx _ _ _ _ _ hne]
  refine v_putI dX5_become_21 fp_RX5_18 lp ?_
  refine v_aload_n dX5_become_24 rfl ?_
  refine v_aload_n dX5_become_25 rfl ?_
  refine v_getI dX5_become_26 fl_RX5_21 lq ?_
  rw [hx _ _ _ _ _ hne, hx _ _ _ _ _ hne, hx _ _ _ _ _ hne]
  refine v_putI dX5_become_29 fp_RX5_21 lp ?_
  refine v_iconst dX5_become_32 ?_
  refine v_istore_n dX5_become_33 (Nat.le_of_ble_eq_true rfl) rfl ?_
  rw [e0]
  exact loop 6 0 (by omega)
theorem ok_strikeOnce {s : St} {i n : Nat} {k : Ky} (hr : vIsR r) (hR : RepR σ r R) (hn : n ≤ 9) (hv : vR n R) (hs : vS R.2.2.2.1 s) (hi : R.2.2.2.2[i]? = some k) (h0 : σ.1 13 0 = nI (ps s)) (hQ : Q none (setI (setI σ 13 0 (nI (ps (rk_str R s k)))) 13 1 (σ.1 13 1 + nI k.2.1))) : Ok (D + 4) mX5_strikeOnce [.ref 13, .ref r, .int (nI i)] σ Q := by
  have hil := (List.getElem?_eq_some_iff.mp hi).1
  have hlen : R.2.2.2.2.length ≤ 9 := by
    rcases hv with e | ⟨-, -, -, -, -, -, -, v8, -⟩
    · subst e; exact Nat.zero_le _
    · omega
  have hc := (hR.2.2.2.2.2 i k hi).2.1
  have hr3 : r + 2 ≠ 13 := by rcases hr with rfl | rfl <;> omega
  refine ok_enter rfl (Nat.le_of_ble_eq_true rfl) ?_
  refine v_aload_n dX5_strikeOnce_0 rfl ?_
  refine v_aload_n dX5_strikeOnce_1 rfl ?_
  refine v_aload_n dX5_strikeOnce_2 rfl ?_
  refine v_getI dX5_strikeOnce_3 fl_RX5_9 rfl ?_
  rw [h0]
  refine v_iload_n dX5_strikeOnce_6 rfl ?_
  refine v_callV2 dX5_strikeOnce_7 mv_RX5_40 hr.lay rfl (Nat.le_of_ble_eq_true rfl) ?_
  refine ok_afterStroke hr hR hn hv hs hi ?_
  show V _ _ _ _ (_ :: _) _ _
  refine v_putI dX5_strikeOnce_10 fp_RX5_9 rfl ?_
  refine v_aload_n dX5_strikeOnce_13 rfl ?_
  refine v_dup dX5_strikeOnce_14 rfl ?_
  refine v_getI dX5_strikeOnce_15 fl_RX5_15 rfl ?_
  rw [setI_ne (by omega)]
  refine v_aload_n dX5_strikeOnce_18 rfl ?_
  refine v_getR dX5_strikeOnce_19 fl_RX5_46 hr.lay hr.q6 ?_
  refine v_iload_n dX5_strikeOnce_22 rfl ?_
  refine v_callS2 dX5_strikeOnce_23 ms_RX5_32 (Nat.le_of_ble_eq_true rfl) ?_
  refine ok_at hr.l2 (by omega) ?_
  rw [vAt_nI (by omega) (by omega), setI_ne (by omega), hc]
  show V _ _ _ _ (_ :: _) _ _
  refine v_iadd dX5_strikeOnce_26 ?_
  refine v_putI dX5_strikeOnce_27 fp_RX5_15 rfl ?_
  refine v_return dX5_strikeOnce_30 rfl ?_
  exact hQ
def nSeed (z : Nat) : Nat := (z * 1103515245 + 12345) % 2147483648
theorem lN_mask (n : Nat) : lN n &&& (2147483647 : Int64) = lN (n % 2147483648) := by
  rw [show (2147483647 : Int64) = lN 2147483647 from rfl]
  apply Int64.toBitVec_inj.1
  show BitVec.ofNat 64 n &&& BitVec.ofNat 64 2147483647 = BitVec.ofNat 64 (n % 2147483648)
  rw [show n % 2147483648 = n &&& 2147483647 from (Nat.and_two_pow_sub_one_eq_mod n 31).symm]
  apply BitVec.eq_of_getLsbD_eq
  intro i hi
  simp [hi]
theorem ok_draw {z n : Nat} (hz : z < 2147483648) (h2 : σ.1 13 2 = nI z) (hn0 : 0 < n) (hn : n ≤ 9) (hQ : Q (some (.int (nI (nSeed z / 65536 % n)))) (setI σ 13 2 (nI (nSeed z)))) : Ok D mX5_draw [.ref 13, .int (nI n)] σ Q := by
  have hl := Nat.mod_lt (z * 1103515245 + 12345) (show 0 < 2147483648 by decide)
  have e : ((nI z).toInt64 * 1103515245 + 12345 &&& 2147483647).toInt32 = nI (nSeed z) := by
    rw [nI_l (by omega), show (1103515245 : Int64) = lN 1103515245 from rfl, show (12345 : Int64) = lN 12345 from rfl, lN_mul, lN_add, lN_mask, lN_i]
    rfl
  have hl2 : nSeed z < 2147483648 := hl
  have hd : nSeed z / 65536 < 32768 := by omega
  refine ok_enter rfl (Nat.le_of_ble_eq_true rfl) ?_
  refine v_aload_n dX5_draw_0 rfl ?_
  refine v_aload_n dX5_draw_1 rfl ?_
  refine v_getI dX5_draw_2 fl_RX5_18 rfl ?_
  rw [h2]
  refine v_i2l dX5_draw_5 ?_
  refine v_ldc2 dX5_draw_6 cn_RX5_49 ?_
  refine v_lmul dX5_draw_9 ?_
  refine v_ldc2 dX5_draw_10 cn_RX5_51 ?_
  refine v_ladd dX5_draw_13 ?_
  refine v_ldc2 dX5_draw_14 cn_RX5_53 ?_
  refine v_land dX5_draw_17 ?_
  refine v_l2i dX5_draw_18 ?_
  rw [e]
  refine v_putI dX5_draw_19 fp_RX5_18 rfl ?_
  refine v_iload_n dX5_draw_22 rfl ?_
  refine v_if_le dX5_draw_23 (fun zc23 => ?_) (fun zc23 => ?_)
  · exact absurd zc23 (nI_nle hn0 (by omega))
  · refine v_aload_n dX5_draw_26 rfl ?_
    refine v_getI dX5_draw_27 fl_RX5_18 rfl ?_
    rw [setI_same]
    refine v_ldc dX5_draw_30 cn_RX5_55 ?_
    refine v_idiv dX5_draw_32 (by decide) ?_
    refine v_iload_n dX5_draw_33 rfl ?_
    refine v_irem dX5_draw_34 (by exact nI_ne0 hn0 (by omega)) ?_
    refine v_goto dX5_draw_35 ?_
    refine v_ireturn dX5_draw_39 rfl (rfl) ?_
    rw [show (65536 : Int32) = nI 65536 from rfl, pk_div (by omega) (by omega) (by omega), pk_rem (by omega) hn0 (by omega)]
    exact hQ
/-! rows of a search -/
theorem ok_rowsEmpty (hQ : Q none (setI (setI (fillL σ 23 2048 0) 22 3 0) 22 4 0)) : Ok (D + 1) mX7_empty [.ref 22] σ Q := by
  refine ok_enter rfl (Nat.le_of_ble_eq_true rfl) ?_
  refine v_aload_n dX7_empty_0 rfl ?_
  refine v_getR (q := 23) dX7_empty_1 fl_RX7_9 rfl rfl ?_
  refine v_lconst dX7_empty_4 ?_
  refine v_callS2 dX7_empty_5 ms_RX7_30 (Nat.le_of_ble_eq_true rfl) ?_
  refine ok_fillL rfl (by decide) ?_
  show V _ _ _ _ _ _ _
  refine v_aload_n dX7_empty_8 rfl ?_
  refine v_iconst dX7_empty_9 ?_
  refine v_putI dX7_empty_10 fp_RX7_23 rfl ?_
  refine v_aload_n dX7_empty_13 rfl ?_
  refine v_iconst dX7_empty_14 ?_
  refine v_putI dX7_empty_15 fp_RX7_27 rfl ?_
  refine v_return dX7_empty_18 rfl ?_
  exact hQ
theorem ok_rowsAppend {c : Nat} {x y : Int32} (hc : σ.1 22 3 = nI c) (hl : c < 60200) (hQ : Q none (setI (setI (setI σ 24 c x) 25 c y) 22 3 (nI (c + 1)))) : Ok D mX7_append [.ref 22, .int x, .int y] σ Q := by
  refine ok_enter rfl (Nat.le_of_ble_eq_true rfl) ?_
  refine v_aload_n dX7_append_0 rfl ?_
  refine v_getI dX7_append_1 fl_RX7_23 rfl ?_
  rw [hc]
  refine v_if_lt dX7_append_4 (fun zc4 => ?_) (fun zc4 => ?_)
  · exact absurd zc4 (nI_pos (by omega))
  · refine v_aload_n dX7_append_7 rfl ?_
    refine v_getI dX7_append_8 fl_RX7_23 rfl ?_
    rw [hc]
    refine v_ldc dX7_append_11 cn_RX7_15 ?_
    refine v_icmp_ge dX7_append_13 (fun zc13 => ?_) (fun zc13 => ?_)
    · exact absurd zc13 (nI_ge (b := 60200) (by omega) (by omega))
    · refine v_aload_n dX7_append_16 rfl ?_
      refine v_getR (q := 24) dX7_append_17 fl_RX7_16 rfl rfl ?_
      refine v_aload_n dX7_append_20 rfl ?_
      refine v_getI dX7_append_21 fl_RX7_23 rfl ?_
      rw [hc]
      refine v_iload_n dX7_append_24 rfl ?_
      refine v_iastore dX7_append_25 rfl (by exact vp_in_nI (by omega) (by omega)) ?_
      rw [nI_clamp (by omega)]
      refine v_aload_n dX7_append_26 rfl ?_
      refine v_getR (q := 25) dX7_append_27 fl_RX7_20 rfl rfl ?_
      refine v_aload_n dX7_append_30 rfl ?_
      refine v_getI dX7_append_31 fl_RX7_23 rfl ?_
      rw [setI_ne (by omega), hc]
      refine v_iload_n dX7_append_34 rfl ?_
      refine v_iastore dX7_append_35 rfl (by exact vp_in_nI (by omega) (by omega)) ?_
      rw [nI_clamp (by omega)]
      refine v_aload_n dX7_append_36 rfl ?_
      refine v_dup dX7_append_37 rfl ?_
      refine v_getI dX7_append_38 fl_RX7_23 rfl ?_
      rw [setI_ne (by omega), setI_ne (by omega), hc]
      refine v_iconst dX7_append_41 ?_
      refine v_iadd dX7_append_42 ?_
      refine v_putI dX7_append_43 fp_RX7_23 rfl ?_
      refine v_return dX7_append_46 rfl ?_
      rw [nI_1]
      exact hQ
def seen (σ : Wd) (n : Nat) : Bool := (σ.2.1 23 (n / 64)).toBitVec.getLsbD (n % 64)
theorem seen_bit (n : Nat) (hn : n < 131072) : ((1 : Int64) <<< ((nI n &&& 63).toInt64 &&& 63)).toBitVec = BitVec.twoPow 64 (n % 64) := by
  have h1 : nI n &&& 63 = nI (n % 64) := pk_andN (by omega) (m := 63) 6 rfl
  rw [h1]
  have h2 : ∀ j, j < 64 → ((1 : Int64) <<< ((nI j).toInt64 &&& 63)).toBitVec = BitVec.twoPow 64 j := by decide +kernel
  exact h2 _ (Nat.mod_lt _ (by decide))
theorem seen_and (w b : Int64) (j : Nat) (hj : j < 64) (hb : b.toBitVec = BitVec.twoPow 64 j) : w &&& b = 0 ↔ w.toBitVec.getLsbD j = false := by
  rw [← Int64.toBitVec_inj, Int64.toBitVec_and, hb]
  constructor
  · intro h
    have h2 := congrArg (fun v => v.getLsbD j) h
    simpa [hj] using h2
  · intro h
    apply BitVec.eq_of_getLsbD_eq
    intro i hi
    by_cases e : j = i
    · subst e; simp [h]
    · simp [BitVec.getLsbD_twoPow, e]
theorem lg_eq0 (x : Int64) : lg_cmp x 0 = 0 ↔ x = 0 := by
  unfold lg_cmp
  constructor
  · intro h
    split at h
    · cases h
    · split at h
      · assumption
      · cases h
  · intro h
    subst h
    rfl
theorem ok_mark {n : Nat} (hn : n < 131072) (h1 : seen σ n = true → Q (some (.int 0)) σ) (h2 : seen σ n = false → ∀ σ' : Wd, σ'.1 = σ.1 → σ'.2.2 = σ.2.2 → (∀ a, a ≠ 23 → σ'.2.1 a = σ.2.1 a) → (∀ m, m < 131072 → seen σ' m = (decide (m = n) || seen σ m)) → Q (some (.int 1)) σ') : Ok D mX7_mark [.ref 22, .int (nI n)] σ Q := by
  have hs : nI n >>> ((6 : Int32) &&& 31) = nI (n / 64) := pk_shrN (by omega) _ 6 rfl
  have hb := seen_bit n hn
  have hj := Nat.mod_lt n (show 0 < 64 by decide)
  refine ok_enter rfl (Nat.le_of_ble_eq_true rfl) ?_
  refine v_iload_n dX7_mark_0 rfl ?_
  refine v_bipush dX7_mark_1 ?_
  refine v_ishr dX7_mark_3 ?_
  rw [hs]
  refine v_istore_n dX7_mark_4 (Nat.le_of_ble_eq_true rfl) rfl ?_
  refine v_iload_n dX7_mark_5 rfl ?_
  refine v_if_lt dX7_mark_6 (fun zc6 => ?_) (fun zc6 => ?_)
  · exact absurd zc6 (nI_pos (by omega))
  · refine v_iload_n dX7_mark_9 rfl ?_
    refine v_sipush dX7_mark_10 ?_
    refine v_icmp_lt dX7_mark_13 (fun zc13 => ?_) (fun zc13 => ?_)
    · refine v_lconst dX7_mark_18 ?_
      refine v_iload_n dX7_mark_19 rfl ?_
      refine v_bipush dX7_mark_20 ?_
      refine v_iand dX7_mark_22 ?_
      refine v_lshl dX7_mark_23 ?_
      refine v_lstore_n dX7_mark_24 (Nat.le_of_ble_eq_true rfl) rfl ?_
      refine v_aload_n dX7_mark_25 rfl ?_
      refine v_getR (q := 23) dX7_mark_26 fl_RX7_9 rfl rfl ?_
      refine v_iload_n dX7_mark_29 rfl ?_
      refine v_laload dX7_mark_30 rfl (by exact vp_in_nI (by omega) (by omega)) ?_
      rw [nI_clamp (by omega)]
      refine v_lload_n dX7_mark_31 rfl ?_
      refine v_land dX7_mark_32 ?_
      refine v_lconst dX7_mark_33 ?_
      refine v_lcmp dX7_mark_34 ?_
      refine v_if_eq dX7_mark_35 (fun zc35 => ?_) (fun zc35 => ?_)
      · rw [lg_eq0, seen_and _ _ _ hj hb] at zc35
        refine v_aload_n dX7_mark_40 rfl ?_
        refine v_getR (q := 23) dX7_mark_41 fl_RX7_9 rfl rfl ?_
        refine v_iload_n dX7_mark_44 rfl ?_
        refine v_dup2 dX7_mark_45 rfl rfl ?_
        refine v_laload dX7_mark_46 rfl (by exact vp_in_nI (by omega) (by omega)) ?_
        rw [nI_clamp (by omega)]
        refine v_lload_n dX7_mark_47 rfl ?_
        refine v_lor dX7_mark_48 ?_
        refine v_lastore dX7_mark_49 rfl (by exact vp_in_nI (by omega) (by omega)) ?_
        rw [nI_clamp (by omega)]
        refine v_iconst dX7_mark_50 ?_
        refine v_ireturn dX7_mark_51 rfl (rfl) ?_
        refine h2 (by unfold seen; exact zc35) _ rfl rfl (fun a h => setL_o h) (fun m hm => ?_)
        unfold seen setL
        dsimp only
        by_cases e : m / 64 = n / 64
        · rw [if_pos ⟨rfl, e⟩, Int64.toBitVec_or, BitVec.getLsbD_or, hb, BitVec.getLsbD_twoPow, e]
          by_cases e2 : m % 64 = n % 64
          · have : m = n := by omega
            simp [this, hj]
          · have : ¬ m = n := fun h => e2 (by rw [h])
            simp [this, show ¬ n % 64 = m % 64 from fun h => e2 h.symm]
        · rw [if_neg (fun h => e h.2)]
          have : ¬ m = n := fun h => e (by rw [h])
          simp [this]
      · rw [lg_eq0, seen_and _ _ _ hj hb] at zc35
        refine v_iconst dX7_mark_38 ?_
        refine v_ireturn dX7_mark_39 rfl (rfl) ?_
        exact h1 (by unfold seen; simpa using zc35)
    · exact absurd (show nI (n / 64) < 2048 from nI_lt (b := 2048) (by omega) (by omega)) zc13
end S2
