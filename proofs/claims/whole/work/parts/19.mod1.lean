/-! ===== the reference: its strokes ===== -/
def wS (m : Nat) (s : St) : Prop := s.1 < max m 1 ∧ s.2.1 ≤ 3 ∧ s.2.2.1 < max m 1 ∧ s.2.2.2 ≤ 1
theorem vS.w {m : Nat} {s : St} (h : vS m s) : wS m s := ⟨h.1, h.2.1, h.2.2.1, h.2.2.2.2⟩
theorem rk_fig_w {R : Rk} {s : St} {d : Nat} (hm : 0 < R.2.2.2.1) (hd : d < R.2.2.2.1) (hs : wS R.2.2.2.1 s) : wS R.2.2.2.1 (rk_fig R s d) := by
  obtain ⟨h1, h2, h3, h5⟩ := hs
  have h6 := Nat.mod_lt (s.1 * R.2.1 + d) hm
  refine ⟨?_, h2, h3, Nat.le_refl 1⟩
  show (if s.2.2.2 = 0 then d else if R.1 = 1 then (if R.2.2.2.1 ≤ s.1 * R.2.1 + d then s.1 else s.1 * R.2.1 + d) else (s.1 * R.2.1 + d) % R.2.2.2.1) < _
  split
  · omega
  · split
    · split <;> omega
    · omega
theorem rk_str_w {R : Rk} {s : St} {k : Ky} {n : Nat} (hR : vR n R) (hk : k ∈ R.2.2.2.2) (hs : wS R.2.2.2.1 s) : wS R.2.2.2.1 (rk_str R s k) := by
  rcases hR with rfl | ⟨h1, h2, h3, h4, h5, h6, h7, h8, h9⟩
  · exact absurd hk List.not_mem_nil
  have hm : 0 < R.2.2.2.1 := by omega
  obtain ⟨q1, q2, q3, q4⟩ := h9 k hk
  obtain ⟨s1, s2, s3, s5⟩ := id hs
  have hr := rk_rec_lt (R := R) (sign := s.2.1) (x := s.2.2.1) (y := s.1) hm
  have hr6 := rk_rec_lt (R := R) (sign := k.2.2.2.toNat) (x := s.1) (y := k.2.2.1.toNat) hm
  unfold rk_str
  split
  · exact rk_fig_w hm (by omega) hs
  · split
    · refine ⟨?_, by show k.1 ≤ 3; assumption, ?_, Nat.zero_le 1⟩
      · show (if _ then _ else _) < _
        split <;> omega
      · show (if _ then _ else _) < _
        split <;> omega
    · split
      · refine ⟨?_, Nat.zero_le _, by show 0 < _; omega, Nat.zero_le 1⟩
        show (if _ then _ else _) < _
        split <;> omega
      · split
        · exact ⟨by show 0 < _; omega, Nat.zero_le _, by show 0 < _; omega, Nat.zero_le 1⟩
        · split
          · exact ⟨by show rk_rec _ _ _ _ < _; omega, s2, s3, Nat.zero_le 1⟩
          · exact rk_fig_w hm (by omega) (rk_fig_w hm (by omega) hs)
def RepM (σ : Wd) (R : Rk) : Prop := σ.1 44 0 = iz R.1 ∧ σ.1 44 1 = nI R.2.1 ∧ σ.1 44 2 = nI R.2.2.1 ∧ σ.1 44 3 = nI R.2.2.2.1 ∧ (∀ (i : Nat) (k : Ky), R.2.2.2.2[i]? = some k → nI i < σ.1 44 4 → σ.1 45 (4 * i + 1) = nI k.2.1 ∧ σ.1 45 (4 * i + 3) = iz k.2.2.2) ∧
  ∀ (i : Nat) (k : Ky), R.2.2.2.2[i]? = some k → σ.1 45 (4 * i) = nI k.1 ∧ σ.1 45 (4 * i + 2) = iz k.2.2.1 ∧ (6 ≤ k.1 → σ.1 45 (4 * i + 3) = iz k.2.2.2)
def RepS (σ : Wd) (s : St) : Prop := σ.1 44 21 = nI s.1 ∧ σ.1 44 22 = nI s.2.1 ∧ σ.1 44 23 = nI s.2.2.1 ∧ σ.1 44 24 = nI s.2.2.2
def putS (σ : Wd) (s : St) : Wd := setI (setI (setI (setI σ 44 21 (nI s.1)) 44 22 (nI s.2.1)) 44 23 (nI s.2.2.1)) 44 24 (nI s.2.2.2)
section M1
variable {D : Nat} {σ σ' : Wd} {Q : Option Value → Wd → Prop} {R : Rk} {s s' : St}
theorem putS_o {a b : Nat} (h : ¬ (a = 44 ∧ 21 ≤ b ∧ b ≤ 24)) : (putS σ s).1 a b = σ.1 a b := by
  unfold putS
  rw [setI_ne (by omega), setI_ne (by omega), setI_ne (by omega), setI_ne (by omega)]
theorem putS_rep : RepS (putS σ s) s := by
  unfold putS
  refine ⟨?_, ?_, ?_, ?_⟩ <;> simp [setI_get]
theorem putS_ext (h1 : σ'.1 44 21 = nI s.1) (h2 : σ'.1 44 22 = nI s.2.1) (h3 : σ'.1 44 23 = nI s.2.2.1) (h4 : σ'.1 44 24 = nI s.2.2.2) (hf : ∀ a b, ¬ (a = 44 ∧ 21 ≤ b ∧ b ≤ 24) → σ'.1 a b = σ.1 a b) (h5 : σ'.2 = σ.2) : σ' = putS σ s := by
  refine Prod.ext (funext fun a => funext fun b => ?_) h5
  by_cases h : a = 44 ∧ 21 ≤ b ∧ b ≤ 24
  · obtain ⟨rfl, g1, g2⟩ := h
    obtain ⟨p1, p2, p3, p4⟩ := putS_rep (σ := σ) (s := s)
    rcases (show b = 21 ∨ b = 22 ∨ b = 23 ∨ b = 24 by omega) with rfl | rfl | rfl | rfl
    · rw [h1, p1]
    · rw [h2, p2]
    · rw [h3, p3]
    · rw [h4, p4]
  · rw [hf a b h, putS_o h]
theorem putS_q {r : Option Value} (hQ : Q r (putS σ s)) (h1 : σ'.1 44 21 = nI s.1) (h2 : σ'.1 44 22 = nI s.2.1) (h3 : σ'.1 44 23 = nI s.2.2.1) (h4 : σ'.1 44 24 = nI s.2.2.2) (hf : ∀ a b, ¬ (a = 44 ∧ 21 ≤ b ∧ b ≤ 24) → σ'.1 a b = σ.1 a b) (h5 : σ'.2 = σ.2) : Q r σ' := by
  rw [putS_ext h1 h2 h3 h4 hf h5]
  exact hQ
theorem putS_putS : putS (putS σ s) s' = putS σ s' := by
  obtain ⟨p1, p2, p3, p4⟩ := putS_rep (σ := putS σ s) (s := s')
  exact putS_ext p1 p2 p3 p4 (fun a b h => by rw [putS_o h, putS_o h]) rfl
theorem putS_id (h : RepS σ s) : putS σ s = σ := (putS_ext h.1 h.2.1 h.2.2.1 h.2.2.2 (fun _ _ _ => rfl) rfl).symm
theorem RepM.kept (h : RepM σ R) (h1 : ∀ b, b ≤ 4 → σ'.1 44 b = σ.1 44 b) (h2 : ∀ b, σ'.1 45 b = σ.1 45 b) : RepM σ' R := by
  obtain ⟨q0, q1, q2, q3, q4, q5⟩ := h
  refine ⟨by rw [h1 _ (by omega)]; exact q0, by rw [h1 _ (by omega)]; exact q1, by rw [h1 _ (by omega)]; exact q2, by rw [h1 _ (by omega)]; exact q3, fun i k hi h4 => ?_, fun i k hi => ?_⟩
  · rw [h2, h2]
    exact q4 i k hi (by rw [h1 4 (by omega)] at h4; exact h4)
  · rw [h2, h2, h2]
    exact q5 i k hi
theorem RepM.cells {i : Nat} {k : Ky} (h : RepM σ R) (hi : R.2.2.2.2[i]? = some k) (h4 : nI i < σ.1 44 4) : σ.1 45 (4 * i) = nI k.1 ∧ σ.1 45 (4 * i + 1) = nI k.2.1 ∧ σ.1 45 (4 * i + 2) = iz k.2.2.1 ∧ σ.1 45 (4 * i + 3) = iz k.2.2.2 := by
  obtain ⟨a1, a3, -⟩ := h.2.2.2.2.2 i k hi
  obtain ⟨a2, a4⟩ := h.2.2.2.2.1 i k hi h4
  exact ⟨a1, a2, a3, a4⟩
theorem RepM.putS (h : RepM σ R) : RepM (putS σ s) R := h.kept (fun b hb => putS_o (by omega)) (fun b => putS_o (by omega))
theorem ok_in {x y z : Int32} (hQ : Q (some (.int (if y.toInt ≤ x.toInt ∧ x.toInt ≤ z.toInt then 1 else 0))) σ) : Ok D mX12_in [.int x, .int y, .int z] σ Q := by
  refine ok_enter rfl (Nat.le_of_ble_eq_true rfl) ?_
  refine v_iload_n dX12_in_0 rfl ?_
  refine v_iload_n dX12_in_1 rfl ?_
  refine v_icmp_lt dX12_in_2 (fun zc2 => ?_) (fun zc2 => ?_)
  · rw [iz_ltI] at zc2
    refine v_iconst dX12_in_14 ?_
    refine v_ireturn dX12_in_15 rfl (rfl) ?_
    first | (rw [if_pos (by omega)] at hQ; exact hQ) | (rw [if_neg (by omega)] at hQ; exact hQ)
  · rw [iz_ltI] at zc2
    refine v_iload_n dX12_in_5 rfl ?_
    refine v_iload_n dX12_in_6 rfl ?_
    refine v_icmp_gt dX12_in_7 (fun zc7 => ?_) (fun zc7 => ?_)
    · rw [iz_ltI] at zc7
      refine v_iconst dX12_in_14 ?_
      refine v_ireturn dX12_in_15 rfl (rfl) ?_
      first | (rw [if_pos (by omega)] at hQ; exact hQ) | (rw [if_neg (by omega)] at hQ; exact hQ)
    · rw [iz_ltI] at zc7
      refine v_iconst dX12_in_10 ?_
      refine v_goto dX12_in_11 ?_
      refine v_ireturn dX12_in_15 rfl (rfl) ?_
      first | (rw [if_pos (by omega)] at hQ; exact hQ) | (rw [if_neg (by omega)] at hQ; exact hQ)
theorem ok_isNumber {x : Int32} {m : Nat} (h3 : σ.1 44 3 = nI m) (hm : m ≤ 100) (hQ : Q (some (.int (if 0 ≤ x.toInt ∧ x.toInt < m then 1 else 0))) σ) : Ok (D + 1) mX12_isNumber [.ref 44, .int x] σ Q := by
  refine ok_enter rfl (Nat.le_of_ble_eq_true rfl) ?_
  refine v_iload_n dX12_isNumber_0 rfl ?_
  refine v_iconst dX12_isNumber_1 ?_
  refine v_aload_n dX12_isNumber_2 rfl ?_
  refine v_getI dX12_isNumber_3 fl_RX12_65 rfl ?_
  rw [h3]
  refine v_iconst dX12_isNumber_6 ?_
  refine v_isub dX12_isNumber_7 ?_
  rw [iz_nI, iz_lit, iz_sub]
  refine v_callS3 dX12_isNumber_8 ms_RX12_68 (Nat.le_of_ble_eq_true rfl) ?_
  refine ok_in ?_
  rw [iz_T0, iz_toInt (by omega) (by omega)]
  show V _ _ _ _ (_ :: _) _ _
  refine v_ireturn dX12_isNumber_11 rfl (by split <;> rfl) ?_
  have e : (0 ≤ x.toInt ∧ x.toInt ≤ (m : Int) - 1) ↔ (0 ≤ x.toInt ∧ x.toInt < (m : Int)) := by omega
  simp only [e]
  exact hQ
theorem ok_start (hQ : Q none (putS σ (0, 0, 0, 0))) : Ok D mX12_start [.ref 44] σ Q := by
  refine ok_enter rfl (Nat.le_of_ble_eq_true rfl) ?_
  refine v_aload_n dX12_start_0 rfl ?_
  refine v_iconst dX12_start_1 ?_
  refine v_putI dX12_start_2 fp_RX12_197 rfl ?_
  refine v_aload_n dX12_start_5 rfl ?_
  refine v_iconst dX12_start_6 ?_
  refine v_putI dX12_start_7 fp_RX12_200 rfl ?_
  refine v_aload_n dX12_start_10 rfl ?_
  refine v_iconst dX12_start_11 ?_
  refine v_putI dX12_start_12 fp_RX12_203 rfl ?_
  refine v_aload_n dX12_start_15 rfl ?_
  refine v_iconst dX12_start_16 ?_
  refine v_putZ dX12_start_17 fp_RX12_206 rfl (by first | exact Or.inl rfl | exact Or.inr rfl) ?_
  refine v_return dX12_start_20 rfl ?_
  exact hQ
theorem tm_em {z m : Int} (hm : 0 < m) : (z.tmod m + m) % m = z % m := by
  rw [Int.add_emod_right]
  have h := Int.mul_tdiv_add_tmod z m
  rw [show z % m = (z.tmod m + m * z.tdiv m) % m by congr 1; omega, Int.add_mul_emod_self_left]
theorem ok_bound {z : Int} (h0 : σ.1 44 0 = iz R.1) (h3 : σ.1 44 3 = nI R.2.2.2.1) (hk : R.1 = 0 ∨ R.1 = 1) (hm : 0 < R.2.2.2.1) (hm2 : R.2.2.2.1 ≤ 100) (z1 : -100000 < z) (z2 : z < 100000) (hQ : Q (some (.int (iz (if R.1 = 1 then (if z < 0 then 0 else if (R.2.2.2.1 : Int) ≤ z then (R.2.2.2.1 : Int) - 1 else z) else z % (R.2.2.2.1 : Int))))) σ) : Ok D mX12_bound [.ref 44, .int (iz z)] σ Q := by
  rw [iz_nI] at h3
  have t1 := Int.tmod_lt_of_pos z (show 0 < (R.2.2.2.1 : Int) by omega)
  have t2 := Int.lt_tmod_of_pos z (show 0 < (R.2.2.2.1 : Int) by omega)
  refine ok_enter rfl (Nat.le_of_ble_eq_true rfl) ?_
  refine v_aload_n dX12_bound_0 rfl ?_
  refine v_getI dX12_bound_1 fl_RX12_7 rfl ?_
  rw [h0]
  refine v_if_ne dX12_bound_4 (fun zc4 => ?_) (fun zc4 => ?_)
  · try simp (disch := omega) only [iz_lit, iz_nI, iz_neg, iz_add, iz_sub, iz_mul, iz_lt, iz_le, iz_eq] at zc4
    refine v_iload_n dX12_bound_24 rfl ?_
    refine v_if_ge dX12_bound_25 (fun zc25 => ?_) (fun zc25 => ?_)
    · try simp (disch := omega) only [iz_lit, iz_nI, iz_neg, iz_add, iz_sub, iz_mul, iz_lt, iz_le, iz_eq] at zc25
      refine v_iload_n dX12_bound_32 rfl ?_
      refine v_aload_n dX12_bound_33 rfl ?_
      refine v_getI dX12_bound_34 fl_RX12_65 rfl ?_
      rw [h3]
      refine v_icmp_lt dX12_bound_37 (fun zc37 => ?_) (fun zc37 => ?_)
      · try simp (disch := omega) only [iz_lit, iz_nI, iz_neg, iz_add, iz_sub, iz_mul, iz_lt, iz_le, iz_eq] at zc37
        refine v_iload_n dX12_bound_49 rfl ?_
        refine v_ireturn dX12_bound_50 rfl (rfl) ?_
        rw [if_pos (by omega)] at hQ
        first | (rw [if_pos (by omega)] at hQ; exact hQ) | (rw [if_neg (by omega), if_pos (by omega)] at hQ; rw [iz_lit, iz_sub]; exact hQ) | (rw [if_neg (by omega), if_neg (by omega)] at hQ; exact hQ)
      · try simp (disch := omega) only [iz_lit, iz_nI, iz_neg, iz_add, iz_sub, iz_mul, iz_lt, iz_le, iz_eq] at zc37
        refine v_aload_n dX12_bound_40 rfl ?_
        refine v_getI dX12_bound_41 fl_RX12_65 rfl ?_
        rw [h3]
        refine v_iconst dX12_bound_44 ?_
        refine v_isub dX12_bound_45 ?_
        refine v_goto dX12_bound_46 ?_
        refine v_ireturn dX12_bound_50 rfl (rfl) ?_
        rw [if_pos (by omega)] at hQ
        first | (rw [if_pos (by omega)] at hQ; exact hQ) | (rw [if_neg (by omega), if_pos (by omega)] at hQ; rw [iz_lit, iz_sub]; exact hQ) | (rw [if_neg (by omega), if_neg (by omega)] at hQ; exact hQ)
    · try simp (disch := omega) only [iz_lit, iz_nI, iz_neg, iz_add, iz_sub, iz_mul, iz_lt, iz_le, iz_eq] at zc25
      refine v_iconst dX12_bound_28 ?_
      refine v_goto dX12_bound_29 ?_
      refine v_ireturn dX12_bound_50 rfl (rfl) ?_
      rw [if_pos (by omega)] at hQ
      first | (rw [if_pos (by omega)] at hQ; exact hQ) | (rw [if_neg (by omega), if_pos (by omega)] at hQ; rw [iz_lit, iz_sub]; exact hQ) | (rw [if_neg (by omega), if_neg (by omega)] at hQ; exact hQ)
  · try simp (disch := omega) only [iz_lit, iz_nI, iz_neg, iz_add, iz_sub, iz_mul, iz_lt, iz_le, iz_eq] at zc4
    refine v_iload_n dX12_bound_7 rfl ?_
    refine v_aload_n dX12_bound_8 rfl ?_
    refine v_getI dX12_bound_9 fl_RX12_65 rfl ?_
    rw [h3]
    refine v_irem dX12_bound_12 (by exact iz_ne0 (by omega) (by omega) (by omega)) ?_
    rw [iz_remT (by omega) (by omega) (by omega) (by omega)]
    refine v_aload_n dX12_bound_13 rfl ?_
    refine v_getI dX12_bound_14 fl_RX12_65 rfl ?_
    rw [h3]
    refine v_iadd dX12_bound_17 ?_
    rw [iz_add]
    refine v_aload_n dX12_bound_18 rfl ?_
    refine v_getI dX12_bound_19 fl_RX12_65 rfl ?_
    rw [h3]
    refine v_irem dX12_bound_22 (by exact iz_ne0 (by omega) (by omega) (by omega)) ?_
    rw [iz_rem (by omega) (by omega) (by omega) (by omega), tm_em (by omega)]
    refine v_ireturn dX12_bound_23 rfl (rfl) ?_
    rw [if_neg (by omega)] at hQ
    exact hQ
theorem ok_mreckon {x y sg : Nat} (h0 : σ.1 44 0 = iz R.1) (h3 : σ.1 44 3 = nI R.2.2.2.1) (hk : R.1 = 0 ∨ R.1 = 1) (hm : 0 < R.2.2.2.1) (hm2 : R.2.2.2.1 ≤ 100) (hx : x < 128) (hy : y < 128) (hs : sg < 128) (hQ : Q (some (.int (nI (rk_rec R sg x y)))) σ) : Ok (D + 1) mX12_reckon [.ref 44, .int (nI sg), .int (nI x), .int (nI y)] σ Q := by
  obtain ⟨b1, b2⟩ := rk_z_b (sg := sg) hx hy
  have hq : iz (if R.1 = 1 then (if rk_z sg x y < 0 then 0 else if (R.2.2.2.1 : Int) ≤ rk_z sg x y then (R.2.2.2.1 : Int) - 1 else rk_z sg x y) else rk_z sg x y % (R.2.2.2.1 : Int)) = nI (rk_rec R sg x y) := by
    have e0 := Int.emod_nonneg (rk_z sg x y) (show (R.2.2.2.1 : Int) ≠ 0 by omega)
    rw [iz_nI]
    congr 1
    unfold rk_rec
    split
    · split
      · rfl
      · split <;> omega
    · omega
  rw [← hq] at hQ
  have tail : ∀ w : Int32, w = iz (rk_z sg x y) → V mX12_reckon (D + 1) 26 [some (.ref 44), some (.int (nI sg)), some (.int (nI x)), some (.int (nI y))] [.int w, .ref 44] σ Q := by
    intro w hw
    subst hw
    refine v_callV1 dX12_reckon_26 mv_RX12_211 rfl rfl (Nat.le_of_ble_eq_true rfl) ?_
    refine ok_bound h0 h3 hk hm hm2 (by omega) (by omega) ?_
    show V _ _ _ _ (_ :: _) _ _
    refine v_ireturn dX12_reckon_29 rfl (rfl) ?_
    exact hQ
  refine ok_enter rfl (Nat.le_of_ble_eq_true rfl) ?_
  refine v_aload_n dX12_reckon_0 rfl ?_
  refine v_iload_n dX12_reckon_1 rfl ?_
  refine v_iconst dX12_reckon_2 ?_
  refine v_icmp_ne dX12_reckon_3 (fun zc3 => ?_) (fun zc3 => ?_)
  · try simp (disch := omega) only [iz_lit, iz_nI, iz_neg, iz_add, iz_sub, iz_mul, iz_lt, iz_le, iz_eq] at zc3
    refine v_iload_n dX12_reckon_12 rfl ?_
    refine v_iconst dX12_reckon_13 ?_
    refine v_icmp_ne dX12_reckon_14 (fun zc14 => ?_) (fun zc14 => ?_)
    · try simp (disch := omega) only [iz_lit, iz_nI, iz_neg, iz_add, iz_sub, iz_mul, iz_lt, iz_le, iz_eq] at zc14
      refine v_iload_n dX12_reckon_23 rfl ?_
      refine v_iload_n dX12_reckon_24 rfl ?_
      refine v_imul dX12_reckon_25 ?_
      refine tail _ ?_
      unfold rk_z
      first | (rw [if_pos (by omega), iz_nI, iz_nI, iz_add]) | (rw [if_neg (by omega), if_pos (by omega), iz_nI, iz_nI, iz_sub]) | (rw [if_neg (by omega), if_neg (by omega), iz_nI, iz_nI, iz_mul])
    · try simp (disch := omega) only [iz_lit, iz_nI, iz_neg, iz_add, iz_sub, iz_mul, iz_lt, iz_le, iz_eq] at zc14
      refine v_iload_n dX12_reckon_17 rfl ?_
      refine v_iload_n dX12_reckon_18 rfl ?_
      refine v_isub dX12_reckon_19 ?_
      refine v_goto dX12_reckon_20 ?_
      refine tail _ ?_
      unfold rk_z
      first | (rw [if_pos (by omega), iz_nI, iz_nI, iz_add]) | (rw [if_neg (by omega), if_pos (by omega), iz_nI, iz_nI, iz_sub]) | (rw [if_neg (by omega), if_neg (by omega), iz_nI, iz_nI, iz_mul])
  · try simp (disch := omega) only [iz_lit, iz_nI, iz_neg, iz_add, iz_sub, iz_mul, iz_lt, iz_le, iz_eq] at zc3
    refine v_iload_n dX12_reckon_6 rfl ?_
    refine v_iload_n dX12_reckon_7 rfl ?_
    refine v_iadd dX12_reckon_8 ?_
    refine v_goto dX12_reckon_9 ?_
    refine tail _ ?_
    unfold rk_z
    first | (rw [if_pos (by omega), iz_nI, iz_nI, iz_add]) | (rw [if_neg (by omega), if_pos (by omega), iz_nI, iz_nI, iz_sub]) | (rw [if_neg (by omega), if_neg (by omega), iz_nI, iz_nI, iz_mul])
theorem ok_figure {d : Nat} (hM : RepM σ R) (hS : RepS σ s) (hk : R.1 = 0 ∨ R.1 = 1) (hb : R.2.1 ≤ 10) (hm : 0 < R.2.2.2.1) (hm2 : R.2.2.2.1 ≤ 100) (hs : wS R.2.2.2.1 s) (hd : d < R.2.2.2.1) (hQ : Q none (putS σ (rk_fig R s d))) : Ok D mX12_figure [.ref 44, .int (nI d)] σ Q := by
  obtain ⟨h0, h1, h2, h3, h4, h5⟩ := hM
  obtain ⟨g1, g2, g3, g4⟩ := hS
  obtain ⟨s1, s2, s3, s5⟩ := id hs
  have hb2 : s.1 * R.2.1 ≤ 1000 := by
    have : s.1 * R.2.1 ≤ 100 * 10 := Nat.mul_le_mul (by omega) hb
    omega
  have hml := Nat.mod_lt (s.1 * R.2.1 + d) hm
  have tail : ∀ v : Nat, rk_fig R s d = (v, s.2.1, s.2.2.1, 1) → ∀ lv, V mX12_figure D 67 (some (.ref 44) :: lv) [] (setI σ 44 21 (nI v)) Q := by
    intro v he lv
    rw [he] at hQ
    refine v_aload_n dX12_figure_67 rfl ?_
    refine v_iconst dX12_figure_68 ?_
    refine v_putZ dX12_figure_69 fp_RX12_206 rfl (by first | exact Or.inl rfl | exact Or.inr rfl) ?_
    refine v_return dX12_figure_72 rfl ?_
    exact putS_q hQ (by simp [setI_get]) (by simp [setI_get]; exact g2) (by simp [setI_get]; exact g3) (by simp [setI_get]; rfl) (fun a b h => by rw [setI_ne (by omega), setI_ne (by omega)]) rfl
  refine ok_enter rfl (Nat.le_of_ble_eq_true rfl) ?_
  refine v_aload_n dX12_figure_0 rfl ?_
  refine v_getI dX12_figure_1 fl_RX12_197 rfl ?_
  rw [g1]
  refine v_aload_n dX12_figure_4 rfl ?_
  refine v_getI dX12_figure_5 fl_RX12_176 rfl ?_
  rw [h1]
  refine v_imul dX12_figure_8 ?_
  refine v_iload_n dX12_figure_9 rfl ?_
  refine v_iadd dX12_figure_10 ?_
  rw [pk_mul, nI_add]
  refine v_istore_n dX12_figure_11 (Nat.le_of_ble_eq_true rfl) rfl ?_
  refine v_aload_n dX12_figure_12 rfl ?_
  refine v_getI dX12_figure_13 fl_RX12_206 rfl ?_
  rw [g4]
  refine v_if_ne dX12_figure_16 (fun zc16 => ?_) (fun zc16 => ?_)
  · rw [show (0 : Int32) = nI 0 from rfl, nI_eq (by omega) (by omega)] at zc16
    refine v_aload_n dX12_figure_27 rfl ?_
    refine v_getI dX12_figure_28 fl_RX12_7 rfl ?_
    rw [h0]
    refine v_if_ne dX12_figure_31 (fun zc31 => ?_) (fun zc31 => ?_)
    · rw [iz_lit, iz_eq (by omega) (by omega) (by omega) (by omega)] at zc31
      refine v_aload_n dX12_figure_47 rfl ?_
      refine v_iload_n dX12_figure_48 rfl ?_
      refine v_aload_n dX12_figure_49 rfl ?_
      refine v_getI dX12_figure_50 fl_RX12_65 rfl ?_
      rw [h3]
      refine v_icmp_lt dX12_figure_53 (fun zc53 => ?_) (fun zc53 => ?_)
      · rw [nI_ltI (by omega) (by omega)] at zc53
        refine v_iload_n dX12_figure_63 rfl ?_
        refine v_putI dX12_figure_64 fp_RX12_197 rfl ?_
        first | (refine tail d ?_ _; unfold rk_fig; rw [if_pos (by omega)]; done) | (refine tail (s.1 * R.2.1 + d) ?_ _; unfold rk_fig; rw [if_neg (by omega), if_pos (by omega), if_neg (by omega)]; done) | (refine tail s.1 ?_ _; unfold rk_fig; rw [if_neg (by omega), if_pos (by omega), if_pos (by omega)]; done) | (refine tail ((s.1 * R.2.1 + d) % R.2.2.2.1) ?_ _; unfold rk_fig; rw [if_neg (by omega), if_neg (by omega)]; done)
      · rw [nI_ltI (by omega) (by omega)] at zc53
        refine v_aload_n dX12_figure_56 rfl ?_
        refine v_getI dX12_figure_57 fl_RX12_197 rfl ?_
        rw [g1]
        refine v_goto dX12_figure_60 ?_
        refine v_putI dX12_figure_64 fp_RX12_197 rfl ?_
        first | (refine tail d ?_ _; unfold rk_fig; rw [if_pos (by omega)]; done) | (refine tail (s.1 * R.2.1 + d) ?_ _; unfold rk_fig; rw [if_neg (by omega), if_pos (by omega), if_neg (by omega)]; done) | (refine tail s.1 ?_ _; unfold rk_fig; rw [if_neg (by omega), if_pos (by omega), if_pos (by omega)]; done) | (refine tail ((s.1 * R.2.1 + d) % R.2.2.2.1) ?_ _; unfold rk_fig; rw [if_neg (by omega), if_neg (by omega)]; done)
    · rw [iz_lit, iz_eq (by omega) (by omega) (by omega) (by omega)] at zc31
      refine v_aload_n dX12_figure_34 rfl ?_
      refine v_iload_n dX12_figure_35 rfl ?_
      refine v_aload_n dX12_figure_36 rfl ?_
      refine v_getI dX12_figure_37 fl_RX12_65 rfl ?_
      rw [h3]
      refine v_irem dX12_figure_40 (by exact nI_ne0 hm (by omega)) ?_
      rw [pk_rem (by omega) hm (by omega)]
      refine v_putI dX12_figure_41 fp_RX12_197 rfl ?_
      refine v_goto dX12_figure_44 ?_
      first | (refine tail d ?_ _; unfold rk_fig; rw [if_pos (by omega)]; done) | (refine tail (s.1 * R.2.1 + d) ?_ _; unfold rk_fig; rw [if_neg (by omega), if_pos (by omega), if_neg (by omega)]; done) | (refine tail s.1 ?_ _; unfold rk_fig; rw [if_neg (by omega), if_pos (by omega), if_pos (by omega)]; done) | (refine tail ((s.1 * R.2.1 + d) % R.2.2.2.1) ?_ _; unfold rk_fig; rw [if_neg (by omega), if_neg (by omega)]; done)
  · rw [show (0 : Int32) = nI 0 from rfl, nI_eq (by omega) (by omega)] at zc16
    refine v_aload_n dX12_figure_19 rfl ?_
    refine v_iload_n dX12_figure_20 rfl ?_
    refine v_putI dX12_figure_21 fp_RX12_197 rfl ?_
    refine v_goto dX12_figure_24 ?_
    first | (refine tail d ?_ _; unfold rk_fig; rw [if_pos (by omega)]; done) | (refine tail (s.1 * R.2.1 + d) ?_ _; unfold rk_fig; rw [if_neg (by omega), if_pos (by omega), if_neg (by omega)]; done) | (refine tail s.1 ?_ _; unfold rk_fig; rw [if_neg (by omega), if_pos (by omega), if_pos (by omega)]; done) | (refine tail ((s.1 * R.2.1 + d) % R.2.2.2.1) ?_ _; unfold rk_fig; rw [if_neg (by omega), if_neg (by omega)]; done)
end M1
