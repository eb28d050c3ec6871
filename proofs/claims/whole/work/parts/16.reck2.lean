/-! ===== a stroke of the class's reckoner ===== -/
section RT
variable {D : Nat} {σ : Wd} {Q : Option Value → Wd → Prop} {r : Nat} {R : Rk}
theorem ok_afterStroke {s : St} {i n : Nat} {k : Ky} (hr : vIsR r) (hR : RepR σ r R) (hn : n ≤ 9) (hv : vR n R) (hs : vS R.2.2.2.1 s) (hi : R.2.2.2.2[i]? = some k) (hQ : Q (some (.int (nI (ps (rk_str R s k))))) σ) : Ok (D + 3) mX6_afterStroke [.ref r, .int (nI (ps s)), .int (nI i)] σ Q := by
  have hmem : k ∈ R.2.2.2.2 := List.mem_of_getElem? hi
  have hil := (List.getElem?_eq_some_iff.mp hi).1
  have hsv := rk_str_v hv hmem hs
  rcases hv with e | ⟨v1, v2, v3, v4, v5, v6, v7, v8, v9⟩
  · subst e; exact absurd hmem List.not_mem_nil
  obtain ⟨k1, k2, k3, k4⟩ := v9 k hmem
  have hlay := hr.lay
  obtain ⟨h0, h1, h2, h3, h4, h5⟩ := id hR
  obtain ⟨a1, a2, a3, a4⟩ := h5 i k hi
  obtain ⟨s1, s2, s3, s4, s5⟩ := id hs
  have hm : 0 < R.2.2.2.1 := by omega
  have e1 := ps_sh v7 hs
  have e2 := ps_he v7 hs
  have e3 := ps_si v7 hs
  have hrl := rk_rec_lt (R := R) (sign := s.2.1) (x := s.2.2.1) (y := s.1) hm
  have hcl : (nI i).toNatClampNeg = i := nI_clamp (by omega)
  have hin : vp_in (nI i) 9 := vp_in_nI (by omega) (by omega)
  refine ok_enter rfl (Nat.le_of_ble_eq_true rfl) ?_
  refine v_iload_n dX6_afterStroke_0 rfl ?_
  refine v_if_lt dX6_afterStroke_1 (fun zc1 => ?_) (fun zc1 => ?_)
  · exact absurd zc1 (nI_pos (by omega))
  · refine v_iload_n dX6_afterStroke_4 rfl ?_
    refine v_aload_n dX6_afterStroke_5 rfl ?_
    refine v_getI dX6_afterStroke_6 fl_RX6_24 hlay ?_
    rw [h4]
    refine v_icmp_ge dX6_afterStroke_9 (fun zc9 => ?_) (fun zc9 => ?_)
    · exact absurd zc9 (nI_ge (by omega) (by omega))
    · refine v_iload_n dX6_afterStroke_12 rfl ?_
      refine v_bipush dX6_afterStroke_13 ?_
      refine v_icmp_lt dX6_afterStroke_15 (fun zc15 => ?_) (fun zc15 => ?_)
      · refine v_aload_n dX6_afterStroke_20 rfl ?_
        refine v_getR dX6_afterStroke_21 fl_RX6_27 hlay hr.q5 ?_
        refine v_iload_n dX6_afterStroke_24 rfl ?_
        refine v_iaload dX6_afterStroke_25 hr.l1 (by exact hin) ?_
        rw [hcl, a1]
        rcases (show k.1 = 0 ∨ (k.1 = 1 ∨ k.1 = 2 ∨ k.1 = 3) ∨ k.1 = 4 ∨ k.1 = 5 ∨ k.1 = 6 ∨ k.1 = 7 by omega) with e | e | e | e | e | e
        · rw [e]
          refine v_tableIn (tgt := 72) dX6_afterStroke_26 (by decide) (by decide) rfl (by decide) ?_
          refine v_aload_n dX6_afterStroke_72 rfl ?_
          refine v_iload_n dX6_afterStroke_73 rfl ?_
          refine v_aload_n dX6_afterStroke_74 rfl ?_
          refine v_getR dX6_afterStroke_75 fl_RX6_34 hlay hr.q7 ?_
          refine v_iload_n dX6_afterStroke_78 rfl ?_
          refine v_iaload dX6_afterStroke_79 hr.l3 (by exact hin) ?_
          rw [hcl, a3]
          rw [iz_toN (by omega)]
          refine v_callV2 dX6_afterStroke_80 mv_RX6_52 hlay rfl (Nat.le_of_ble_eq_true rfl) ?_
          refine ok_afterFigure hr hR v1 v3 hm v7 hs (by omega) ?_
          show V _ _ _ _ (_ :: _) _ _
          refine v_ireturn dX6_afterStroke_83 rfl (rfl) ?_
          unfold rk_str at hQ
          rw [if_pos e] at hQ
          exact hQ
        · have hsw : V mX6_afterStroke (D + 3) 84 (vm_arg [Value.ref r, Value.int (nI (ps s)), Value.int (nI i)] ++ List.replicate (mX6_afterStroke.2.2.1 - (vm_arg [Value.ref r, Value.int (nI (ps s)), Value.int (nI i)]).length) none) [] σ Q := by
            refine v_aload_n dX6_afterStroke_84 rfl ?_
            refine v_iload_n dX6_afterStroke_85 rfl ?_
            refine v_aload_n dX6_afterStroke_86 rfl ?_
            refine v_getR dX6_afterStroke_87 fl_RX6_27 hlay hr.q5 ?_
            refine v_iload_n dX6_afterStroke_90 rfl ?_
            refine v_iaload dX6_afterStroke_91 hr.l1 (by exact hin) ?_
            rw [hcl, a1]
            refine v_callV2 dX6_afterStroke_92 mv_RX6_56 hlay rfl (Nat.le_of_ble_eq_true rfl) ?_
            refine ok_afterSign hr hR v1 hm v7 hs (by omega) ?_
            show V _ _ _ _ (_ :: _) _ _
            refine v_ireturn dX6_afterStroke_95 rfl (rfl) ?_
            unfold rk_str at hQ
            rw [if_neg (by omega), if_pos (by omega)] at hQ
            exact hQ
          rcases e with e | e | e
          · rw [e]
            exact v_tableIn (tgt := 84) dX6_afterStroke_26 (by decide) (by decide) rfl (by decide) hsw
          · rw [e]
            exact v_tableIn (tgt := 84) dX6_afterStroke_26 (by decide) (by decide) rfl (by decide) hsw
          · rw [e]
            exact v_tableIn (tgt := 84) dX6_afterStroke_26 (by decide) (by decide) rfl (by decide) hsw
        · rw [e]
          refine v_tableIn (tgt := 96) dX6_afterStroke_26 (by decide) (by decide) rfl (by decide) ?_
          refine v_iload_n dX6_afterStroke_96 rfl ?_
          refine v_callS1 dX6_afterStroke_97 ms_RX6_59 (Nat.le_of_ble_eq_true rfl) ?_
          refine ok_signIn ?_
          rw [e3]
          show V _ _ _ _ (_ :: _) _ _
          refine v_if_ne dX6_afterStroke_100 (fun zc100 => ?_) (fun zc100 => ?_)
          · rw [show (0 : Int32) = nI 0 from rfl, nI_eq (by omega) (by omega)] at zc100
            refine v_aload_n dX6_afterStroke_110 rfl ?_
            refine v_iload_n dX6_afterStroke_111 rfl ?_
            refine v_callS1 dX6_afterStroke_112 ms_RX6_66 (Nat.le_of_ble_eq_true rfl) ?_
            refine ok_heldIn ?_
            rw [e2]
            show V _ _ _ _ (_ :: _) _ _
            refine v_iload_n dX6_afterStroke_115 rfl ?_
            refine v_callS1 dX6_afterStroke_116 ms_RX6_59 (Nat.le_of_ble_eq_true rfl) ?_
            refine ok_signIn ?_
            rw [e3]
            show V _ _ _ _ (_ :: _) _ _
            refine v_iload_n dX6_afterStroke_119 rfl ?_
            refine v_callS1 dX6_afterStroke_120 ms_RX6_63 (Nat.le_of_ble_eq_true rfl) ?_
            refine ok_shownIn ?_
            rw [e1]
            show V _ _ _ _ (_ :: _) _ _
            refine v_callV3 dX6_afterStroke_123 mv_RX6_69 hlay rfl (Nat.le_of_ble_eq_true rfl) ?_
            refine ok_reckon hr hR v1 hm v7 (by omega) (by omega) (by omega) ?_
            show V _ _ _ _ (_ :: _) _ _
            refine v_ireturn dX6_afterStroke_126 rfl (rfl) ?_
            unfold rk_str at hQ
            rw [if_neg (by omega), if_neg (by omega), if_pos e] at hQ
            first | (rw [if_pos (by omega)] at hQ; simpa [ps] using hQ) | (rw [if_neg (by omega)] at hQ; simpa [ps] using hQ)
          · rw [show (0 : Int32) = nI 0 from rfl, nI_eq (by omega) (by omega)] at zc100
            refine v_iload_n dX6_afterStroke_103 rfl ?_
            refine v_callS1 dX6_afterStroke_104 ms_RX6_63 (Nat.le_of_ble_eq_true rfl) ?_
            refine ok_shownIn ?_
            rw [e1]
            show V _ _ _ _ (_ :: _) _ _
            refine v_goto dX6_afterStroke_107 ?_
            refine v_ireturn dX6_afterStroke_126 rfl (rfl) ?_
            unfold rk_str at hQ
            rw [if_neg (by omega), if_neg (by omega), if_pos e] at hQ
            first | (rw [if_pos (by omega)] at hQ; simpa [ps] using hQ) | (rw [if_neg (by omega)] at hQ; simpa [ps] using hQ)
        · rw [e]
          refine v_tableIn (tgt := 127) dX6_afterStroke_26 (by decide) (by decide) rfl (by decide) ?_
          refine v_iconst dX6_afterStroke_127 ?_
          refine v_ireturn dX6_afterStroke_128 rfl (rfl) ?_
          unfold rk_str at hQ
          rw [if_neg (by omega), if_neg (by omega), if_neg (by omega), if_pos e] at hQ
          exact hQ
        · rw [e]
          refine v_tableIn (tgt := 129) dX6_afterStroke_26 (by decide) (by decide) rfl (by decide) ?_
          refine v_iload_n dX6_afterStroke_129 rfl ?_
          refine v_ldc dX6_afterStroke_130 cn_RX6_73 ?_
          refine v_iand dX6_afterStroke_132 ?_
          refine v_aload_n dX6_afterStroke_133 rfl ?_
          refine v_iload_n dX6_afterStroke_134 rfl ?_
          refine v_callS1 dX6_afterStroke_135 ms_RX6_63 (Nat.le_of_ble_eq_true rfl) ?_
          refine ok_shownIn ?_
          rw [e1]
          show V _ _ _ _ (_ :: _) _ _
          refine v_aload_n dX6_afterStroke_138 rfl ?_
          refine v_getR dX6_afterStroke_139 fl_RX6_37 hlay hr.q8 ?_
          refine v_iload_n dX6_afterStroke_142 rfl ?_
          refine v_iaload dX6_afterStroke_143 hr.l4 (by exact hin) ?_
          rw [hcl, a4]
          refine v_aload_n dX6_afterStroke_144 rfl ?_
          refine v_getR dX6_afterStroke_145 fl_RX6_34 hlay hr.q7 ?_
          refine v_iload_n dX6_afterStroke_148 rfl ?_
          refine v_iaload dX6_afterStroke_149 hr.l3 (by exact hin) ?_
          rw [hcl, a3]
          rw [iz_toN (by omega), iz_toN (by omega)]
          refine v_callV3 dX6_afterStroke_150 mv_RX6_69 hlay rfl (Nat.le_of_ble_eq_true rfl) ?_
          refine ok_reckon hr hR v1 hm v7 (by omega) (by omega) (by omega) ?_
          show V _ _ _ _ (_ :: _) _ _
          refine v_ior dX6_afterStroke_153 ?_
          refine v_ireturn dX6_afterStroke_154 rfl (rfl) ?_
          unfold rk_str at hQ
          rw [if_neg (by omega), if_neg (by omega), if_neg (by omega), if_neg (by omega), if_pos e] at hQ
          have hr6 := rk_rec_lt (R := R) (sign := k.2.2.2.toNat) (x := s.1) (y := k.2.2.1.toNat) hm
          rw [ps_now v7 hs (by omega)]
          exact hQ
        · rw [e]
          refine v_tableIn (tgt := 155) dX6_afterStroke_26 (by decide) (by decide) rfl (by decide) ?_
          refine v_aload_n dX6_afterStroke_155 rfl ?_
          refine v_aload_n dX6_afterStroke_156 rfl ?_
          refine v_iload_n dX6_afterStroke_157 rfl ?_
          refine v_aload_n dX6_afterStroke_158 rfl ?_
          refine v_getR dX6_afterStroke_159 fl_RX6_34 hlay hr.q7 ?_
          refine v_iload_n dX6_afterStroke_162 rfl ?_
          refine v_iaload dX6_afterStroke_163 hr.l3 (by exact hin) ?_
          rw [hcl, a3]
          rw [iz_toN (by omega)]
          refine v_callV2 dX6_afterStroke_164 mv_RX6_52 hlay rfl (Nat.le_of_ble_eq_true rfl) ?_
          refine ok_afterFigure hr hR v1 v3 hm v7 hs (by omega) ?_
          show V _ _ _ _ (_ :: _) _ _
          refine v_aload_n dX6_afterStroke_167 rfl ?_
          refine v_getR dX6_afterStroke_168 fl_RX6_37 hlay hr.q8 ?_
          refine v_iload_n dX6_afterStroke_171 rfl ?_
          refine v_iaload dX6_afterStroke_172 hr.l4 (by exact hin) ?_
          rw [hcl, a4]
          rw [iz_toN (by omega)]
          refine v_callV2 dX6_afterStroke_173 mv_RX6_52 hlay rfl (Nat.le_of_ble_eq_true rfl) ?_
          refine ok_afterFigure hr hR v1 v3 hm v7 (rk_fig_v hm (by omega) hs) (by omega) ?_
          show V _ _ _ _ (_ :: _) _ _
          refine v_ireturn dX6_afterStroke_176 rfl (rfl) ?_
          unfold rk_str at hQ
          rw [if_neg (by omega), if_neg (by omega), if_neg (by omega), if_neg (by omega), if_neg (by omega)] at hQ
          exact hQ
      · exact absurd (show nI i < 9 from nI_lt (b := 9) (by omega) (by omega)) zc15
/-! worlds that differ in told places alone -/
def Fr (P : Nat → Nat → Prop) (σ σ' : Wd) : Prop := (∀ a b, ¬ P a b → σ'.1 a b = σ.1 a b) ∧ σ'.2 = σ.2
theorem Fr.rf {P : Nat → Nat → Prop} : Fr P σ σ := ⟨fun _ _ _ => rfl, rfl⟩
theorem Fr.tr {P : Nat → Nat → Prop} {a b c : Wd} (h1 : Fr P a b) (h2 : Fr P b c) : Fr P a c := ⟨fun x y h => by rw [h2.1 x y h, h1.1 x y h], by rw [h2.2, h1.2]⟩
theorem Fr.mn {P P' : Nat → Nat → Prop} {a b : Wd} (h1 : Fr P a b) (h : ∀ x y, P x y → P' x y) : Fr P' a b := ⟨fun x y hh => h1.1 x y (fun hp => hh (h x y hp)), h1.2⟩
theorem Fr.set {P : Nat → Nat → Prop} {a b : Wd} {k i : Nat} {x : Int32} (h1 : Fr P a b) (h : P k i) : Fr P a (setI b k i x) := ⟨fun u v hh => by
  show (if u = k ∧ v = i then x else b.1 u v) = a.1 u v
  rw [if_neg (fun e => hh (by rw [e.1, e.2]; exact h))]
  exact h1.1 u v hh, h1.2⟩
theorem setI_get {k i a b : Nat} {x : Int32} : (setI σ k i x).1 a b = if a = k ∧ b = i then x else σ.1 a b := rfl
theorem setI_same {k i : Nat} {x : Int32} : (setI σ k i x).1 k i = x := by simp [setI]
theorem setI_ne {k i a b : Nat} {x : Int32} (h : ¬ (a = k ∧ b = i)) : (setI σ k i x).1 a b = σ.1 a b := by
  show (if a = k ∧ b = i then x else σ.1 a b) = _
  rw [if_neg h]
/-- a reckoner stays what it is, where its cells do -/
theorem RepR.kept {σ' : Wd} (h : RepR σ r R) (hk : ∀ a b, r ≤ a → a ≤ r + 4 → σ'.1 a b = σ.1 a b) : RepR σ' r R := by
  obtain ⟨h0, h1, h2, h3, h4, h5⟩ := h
  refine ⟨by rw [hk _ _ (by omega) (by omega)]; exact h0, by rw [hk _ _ (by omega) (by omega)]; exact h1, by rw [hk _ _ (by omega) (by omega)]; exact h2, by rw [hk _ _ (by omega) (by omega)]; exact h3, by rw [hk _ _ (by omega) (by omega)]; exact h4, fun i k hi => ?_⟩
  rw [hk _ _ (by omega) (by omega), hk _ _ (by omega) (by omega), hk _ _ (by omega) (by omega), hk _ _ (by omega) (by omega)]
  exact h5 i k hi
theorem ok_setDial {a b c d : Int32} (hr : vIsR r) (hQ : Q none (setI (setI (setI (setI σ r 0 a) r 1 b) r 2 c) r 3 d)) : Ok D mX6_setDial [.ref r, .int a, .int b, .int c, .int d] σ Q := by
  have hlay := hr.lay
  refine ok_enter rfl (Nat.le_of_ble_eq_true rfl) ?_
  refine v_aload_n dX6_setDial_0 rfl ?_
  refine v_iload_n dX6_setDial_1 rfl ?_
  refine v_putI dX6_setDial_2 fp_RX6_9 hlay ?_
  refine v_aload_n dX6_setDial_5 rfl ?_
  refine v_iload_n dX6_setDial_6 rfl ?_
  refine v_putI dX6_setDial_7 fp_RX6_15 hlay ?_
  refine v_aload_n dX6_setDial_10 rfl ?_
  refine v_iload_n dX6_setDial_11 rfl ?_
  refine v_putI dX6_setDial_12 fp_RX6_18 hlay ?_
  refine v_aload_n dX6_setDial_15 rfl ?_
  refine v_iload dX6_setDial_16 rfl ?_
  refine v_putI dX6_setDial_18 fp_RX6_21 hlay ?_
  refine v_return dX6_setDial_21 rfl ?_
  exact hQ
theorem ok_empty (hr : vIsR r) (hQ : Q none (setI (setI (setI (setI (setI σ r 0 (-1)) r 1 0) r 2 0) r 3 0) r 4 0)) : Ok (D + 1) mX6_empty [.ref r] σ Q := by
  have hlay := hr.lay
  refine ok_enter rfl (Nat.le_of_ble_eq_true rfl) ?_
  refine v_aload_n dX6_empty_0 rfl ?_
  refine v_iconst dX6_empty_1 ?_
  refine v_iconst dX6_empty_2 ?_
  refine v_iconst dX6_empty_3 ?_
  refine v_iconst dX6_empty_4 ?_
  refine v_callV4 dX6_empty_5 mv_RX6_40 hlay rfl (Nat.le_of_ble_eq_true rfl) ?_
  refine ok_setDial hr ?_
  show V _ _ _ _ _ _ _
  refine v_aload_n dX6_empty_8 rfl ?_
  refine v_iconst dX6_empty_9 ?_
  refine v_putI dX6_empty_10 fp_RX6_24 hlay ?_
  refine v_return dX6_empty_13 rfl ?_
  exact hQ
theorem rep_empty (hr : vIsR r) : RepR (setI (setI (setI (setI (setI σ r 0 (-1)) r 1 0) r 2 0) r 3 0) r 4 0) r (-1, 0, 0, 0, []) := by
  refine ⟨by simp [setI_get]; rfl, by simp [setI_get]; rfl, by simp [setI_get]; rfl, by simp [setI_get]; rfl, by simp [setI_get]; rfl, fun i k h => by simp at h⟩
theorem rep_dial {σ0 : Wd} {kd b f m : Nat} (h : RepR σ r (-1, 0, 0, 0, [])) (hr : vIsR r) : RepR (setI (setI (setI (setI σ r 0 (nI kd)) r 1 (nI b)) r 2 (nI f)) r 3 (nI m)) r (kd, b, f, m, []) := by
  obtain ⟨h0, h1, h2, h3, h4, h5⟩ := h
  refine ⟨by simp [setI_get, iz_nI], by simp [setI_get], by simp [setI_get], by simp [setI_get], by simp [setI_get]; exact h4, fun i k h => by simp at h⟩
theorem ok_addKey {a b c d : Int32} {n : Nat} (hr : vIsR r) (h4 : σ.1 r 4 = nI n) (hn : n < 9) (hQ : Q none (setI (setI (setI (setI (setI σ (r + 1) n a) (r + 2) n b) (r + 3) n c) (r + 4) n d) r 4 (nI (n + 1)))) : Ok (D + 1) mX6_addKey [.ref r, .int a, .int b, .int c, .int d] σ Q := by
  have hlay := hr.lay
  have hT : (nI n).toInt = n := nI_toInt (by omega)
  have hw : ∀ (τ : Wd) (k : Nat) (v : Int32), wPut τ k 9 (nI n) v = setI τ k n v := fun τ k v => by
    unfold wPut
    rw [hT, if_pos (by omega)]
    rfl
  refine ok_enter rfl (Nat.le_of_ble_eq_true rfl) ?_
  refine v_aload_n dX6_addKey_0 rfl ?_
  refine v_getI dX6_addKey_1 fl_RX6_24 hlay ?_
  rw [h4]
  refine v_if_lt dX6_addKey_4 (fun zc4 => ?_) (fun zc4 => ?_)
  · exact absurd zc4 (nI_pos (by omega))
  · refine v_aload_n dX6_addKey_7 rfl ?_
    refine v_getI dX6_addKey_8 fl_RX6_24 hlay ?_
    rw [h4]
    refine v_bipush dX6_addKey_11 ?_
    refine v_icmp_ge dX6_addKey_13 (fun zc13 => ?_) (fun zc13 => ?_)
    · exact absurd zc13 (nI_ge (b := 9) (by omega) (by omega))
    · refine v_aload_n dX6_addKey_16 rfl ?_
      refine v_getR dX6_addKey_17 fl_RX6_27 hlay hr.q5 ?_
      refine v_aload_n dX6_addKey_20 rfl ?_
      refine v_getI dX6_addKey_21 fl_RX6_24 hlay ?_
      rw [h4]
      refine v_iload_n dX6_addKey_24 rfl ?_
      refine v_callS3 dX6_addKey_25 ms_RX6_44 (Nat.le_of_ble_eq_true rfl) ?_
      refine ok_put hr.l1 (by omega) ?_
      rw [hw]
      show V _ _ _ _ _ _ _
      refine v_aload_n dX6_addKey_28 rfl ?_
      refine v_getR dX6_addKey_29 fl_RX6_31 hlay hr.q6 ?_
      refine v_aload_n dX6_addKey_32 rfl ?_
      refine v_getI dX6_addKey_33 fl_RX6_24 hlay ?_
      rw [setI_ne (by omega), h4]
      refine v_iload_n dX6_addKey_36 rfl ?_
      refine v_callS3 dX6_addKey_37 ms_RX6_44 (Nat.le_of_ble_eq_true rfl) ?_
      refine ok_put hr.l2 (by omega) ?_
      rw [hw]
      show V _ _ _ _ _ _ _
      refine v_aload_n dX6_addKey_40 rfl ?_
      refine v_getR dX6_addKey_41 fl_RX6_34 hlay hr.q7 ?_
      refine v_aload_n dX6_addKey_44 rfl ?_
      refine v_getI dX6_addKey_45 fl_RX6_24 hlay ?_
      rw [setI_ne (by omega), setI_ne (by omega), h4]
      refine v_iload_n dX6_addKey_48 rfl ?_
      refine v_callS3 dX6_addKey_49 ms_RX6_44 (Nat.le_of_ble_eq_true rfl) ?_
      refine ok_put hr.l3 (by omega) ?_
      rw [hw]
      show V _ _ _ _ _ _ _
      refine v_aload_n dX6_addKey_52 rfl ?_
      refine v_getR dX6_addKey_53 fl_RX6_37 hlay hr.q8 ?_
      refine v_aload_n dX6_addKey_56 rfl ?_
      refine v_getI dX6_addKey_57 fl_RX6_24 hlay ?_
      rw [setI_ne (by omega), setI_ne (by omega), setI_ne (by omega), h4]
      refine v_iload dX6_addKey_60 rfl ?_
      refine v_callS3 dX6_addKey_62 ms_RX6_44 (Nat.le_of_ble_eq_true rfl) ?_
      refine ok_put hr.l4 (by omega) ?_
      rw [hw]
      show V _ _ _ _ _ _ _
      refine v_aload_n dX6_addKey_65 rfl ?_
      refine v_dup dX6_addKey_66 rfl ?_
      refine v_getI dX6_addKey_67 fl_RX6_24 hlay ?_
      rw [setI_ne (by omega), setI_ne (by omega), setI_ne (by omega), setI_ne (by omega), h4]
      refine v_iconst dX6_addKey_70 ?_
      refine v_iadd dX6_addKey_71 ?_
      refine v_putI dX6_addKey_72 fp_RX6_24 hlay ?_
      refine v_return dX6_addKey_75 rfl ?_
      rw [nI_1]
      exact hQ
theorem rep_addKey {k : Ky} {kd : Int} {b f m : Nat} {ks : List Ky} {n : Nat} (hn : ks.length = n) (h : RepR σ r (kd, b, f, m, ks)) : RepR (setI (setI (setI (setI (setI σ (r + 1) n (nI k.1)) (r + 2) n (nI k.2.1)) (r + 3) n (iz k.2.2.1)) (r + 4) n (iz k.2.2.2)) r 4 (nI (n + 1))) r (kd, b, f, m, ks ++ [k]) := by
  obtain ⟨h0, h1, h2, h3, h4, h5⟩ := h
  refine ⟨by simp [setI_get]; exact h0, by simp [setI_get]; exact h1, by simp [setI_get]; exact h2, by simp [setI_get]; exact h3, by simp [setI_get, hn], fun i q hi => ?_⟩
  by_cases hlt : i < n
  · have hi2 : ks[i]? = some q := by
      rw [← hi]
      exact (List.getElem?_append_left (by omega)).symm
    have h6 := h5 i q hi2
    simp [setI_get, show ¬ i = n by omega]
    exact h6
  · have hi3 : (ks ++ [k])[i]? = some q := hi
    rw [List.getElem?_append_right (by omega)] at hi3
    have hz : i - ks.length = 0 := by
      rcases Nat.eq_zero_or_pos (i - ks.length) with h | h
      · exact h
      · rw [List.getElem?_eq_none (by simp; omega)] at hi3; cases hi3
    rw [hz] at hi3
    have e1 : k = q := by simpa using hi3
    have e2 : i = n := by omega
    subst e1; subst e2
    simp [setI_get]
theorem ok_dropKey {n : Nat} (hr : vIsR r) (h4 : σ.1 r 4 = nI (n + 1)) (hn : n < 9) (hQ : Q none (setI σ r 4 (nI n))) : Ok D mX6_dropKey [.ref r] σ Q := by
  have hlay := hr.lay
  refine ok_enter rfl (Nat.le_of_ble_eq_true rfl) ?_
  refine v_aload_n dX6_dropKey_0 rfl ?_
  refine v_getI dX6_dropKey_1 fl_RX6_24 hlay ?_
  rw [h4]
  refine v_if_le dX6_dropKey_4 (fun zc4 => ?_) (fun zc4 => ?_)
  · exact absurd zc4 (nI_nle (by omega) (by omega))
  · refine v_aload_n dX6_dropKey_7 rfl ?_
    refine v_dup dX6_dropKey_8 rfl ?_
    refine v_getI dX6_dropKey_9 fl_RX6_24 hlay ?_
    rw [h4]
    refine v_iconst dX6_dropKey_12 ?_
    refine v_isub dX6_dropKey_13 ?_
    refine v_putI dX6_dropKey_14 fp_RX6_24 hlay ?_
    refine v_return dX6_dropKey_17 rfl ?_
    rw [nI_pred]
    exact hQ
theorem rep_dropKey {k : Ky} {kd : Int} {b f m : Nat} {ks : List Ky} (h : RepR σ r (kd, b, f, m, ks ++ [k])) : RepR (setI σ r 4 (nI ks.length)) r (kd, b, f, m, ks) := by
  obtain ⟨h0, h1, h2, h3, h4, h5⟩ := h
  refine ⟨by simp [setI_get]; exact h0, by simp [setI_get]; exact h1, by simp [setI_get]; exact h2, by simp [setI_get]; exact h3, by simp [setI_get], fun i q hi => ?_⟩
  have h6 := h5 i q (by
    show (ks ++ [k])[i]? = some q
    have hl := (List.getElem?_eq_some_iff.mp hi).1
    rw [List.getElem?_append_left hl]
    exact hi)
  simp [setI_get]
  exact h6
theorem vAt_nI {k n i : Nat} (h : i < n) (hn : n < 2147483648) : vAt σ k n (nI i) = σ.1 k i := by
  unfold vAt
  rw [nI_toInt (by omega), if_pos (by omega)]
  rfl
def hasK (ks : List Ky) (kd : Nat) (f : Int) : Bool := ks.any (fun k => k.1 == kd && k.2.2.1 == f)
theorem ok_hasKey {kd n : Nat} {f : Int} (hr : vIsR r) (hR : RepR σ r R) (hv : vR n R) (hn : n ≤ 9) (hkd : kd < 8) (f1 : -1 ≤ f) (f2 : f < 100) (hQ : Q (some (.int (if hasK R.2.2.2.2 kd f then 1 else 0))) σ) : Ok (D + 1) mX6_hasKey [.ref r, .int (nI kd), .int (iz f)] σ Q := by
  have hlay := hr.lay
  obtain ⟨h0, h1, h2, h3, h4, h5⟩ := id hR
  have hlen : R.2.2.2.2.length ≤ 9 := by
    rcases hv with e | ⟨-, -, -, -, -, -, -, v8, -⟩
    · subst e; exact Nat.zero_le _
    · omega
  have hval : ∀ (i : Nat) (k : Ky), R.2.2.2.2[i]? = some k → k.1 < 8 ∧ -1 ≤ k.2.2.1 ∧ k.2.2.1 < 100 := by
    intro i k hi
    rcases hv with e | ⟨v1, v2, v3, v4, v5, v6, v7, v8, v9⟩
    · subst e; simp at hi
    · obtain ⟨q1, q2, q3, q4⟩ := v9 k (List.mem_of_getElem? hi)
      omega
  have loop : ∀ j i, i + j = R.2.2.2.2.length → hasK (R.2.2.2.2.take i) kd f = false → V mX6_hasKey (D + 1) 2 [some (.ref r), some (.int (nI kd)), some (.int (iz f)), some (.int (nI i))] [] σ Q := by
    intro j
    induction j with
    | zero =>
      intro i hi hf
      refine v_iload_n dX6_hasKey_2 rfl ?_
      refine v_aload_n dX6_hasKey_3 rfl ?_
      refine v_getI dX6_hasKey_4 fl_RX6_24 hlay ?_
      rw [h4]
      refine v_icmp_ge dX6_hasKey_7 (fun zc7 => ?_) (fun zc7 => ?_)
      · refine v_iconst dX6_hasKey_42 ?_
        refine v_ireturn dX6_hasKey_43 rfl (rfl) ?_
        rw [List.take_of_length_le (by omega)] at hf
        rw [hf] at hQ
        exact hQ
      · exact absurd (nI_le (by omega) (by omega)) zc7
    | succ j ih =>
      intro i hi hf
      obtain ⟨k, hk⟩ : ∃ k, R.2.2.2.2[i]? = some k := ⟨_, List.getElem?_eq_getElem (by omega)⟩
      obtain ⟨a1, a2, a3, a4⟩ := h5 i k hk
      obtain ⟨b1, b2, b3⟩ := hval i k hk
      have hst : hasK (R.2.2.2.2.take (i + 1)) kd f = (k.1 == kd && k.2.2.1 == f) := by
        unfold hasK at hf ⊢
        rw [List.take_add_one, hk, List.any_append, hf]
        simp
      refine v_iload_n dX6_hasKey_2 rfl ?_
      refine v_aload_n dX6_hasKey_3 rfl ?_
      refine v_getI dX6_hasKey_4 fl_RX6_24 hlay ?_
      rw [h4]
      refine v_icmp_ge dX6_hasKey_7 (fun zc7 => ?_) (fun zc7 => ?_)
      · exact absurd zc7 (nI_ge (by omega) (by omega))
      · refine v_aload_n dX6_hasKey_10 rfl ?_
        refine v_getR dX6_hasKey_11 fl_RX6_27 hlay hr.q5 ?_
        refine v_iload_n dX6_hasKey_14 rfl ?_
        refine v_callS2 dX6_hasKey_15 ms_RX6_48 (Nat.le_of_ble_eq_true rfl) ?_
        refine ok_at hr.l1 (by omega) ?_
        rw [vAt_nI (by omega) (by omega), a1]
        show V _ _ _ _ (_ :: _) _ _
        refine v_iload_n dX6_hasKey_18 rfl ?_
        refine v_icmp_ne dX6_hasKey_19 (fun zc19 => ?_) (fun zc19 => ?_)
        · rw [nI_eq (by omega) (by omega)] at zc19
          refine v_iinc dX6_hasKey_36 rfl (Nat.le_of_ble_eq_true rfl) rfl ?_
          refine v_goto dX6_hasKey_39 ?_
          rw [nI_1]
          refine ih (i + 1) (by omega) ?_
          rw [hst]
          simp_all
        · rw [nI_eq (by omega) (by omega)] at zc19
          refine v_aload_n dX6_hasKey_22 rfl ?_
          refine v_getR dX6_hasKey_23 fl_RX6_34 hlay hr.q7 ?_
          refine v_iload_n dX6_hasKey_26 rfl ?_
          refine v_callS2 dX6_hasKey_27 ms_RX6_48 (Nat.le_of_ble_eq_true rfl) ?_
          refine ok_at hr.l3 (by omega) ?_
          rw [vAt_nI (by omega) (by omega), a3]
          show V _ _ _ _ (_ :: _) _ _
          refine v_iload_n dX6_hasKey_30 rfl ?_
          refine v_icmp_ne dX6_hasKey_31 (fun zc31 => ?_) (fun zc31 => ?_)
          · rw [iz_eq (by omega) (by omega) (by omega) (by omega)] at zc31
            refine v_iinc dX6_hasKey_36 rfl (Nat.le_of_ble_eq_true rfl) rfl ?_
            refine v_goto dX6_hasKey_39 ?_
            rw [nI_1]
            refine ih (i + 1) (by omega) ?_
            rw [hst]
            simp_all
          · rw [iz_eq (by omega) (by omega) (by omega) (by omega)] at zc31
            refine v_iconst dX6_hasKey_34 ?_
            refine v_ireturn dX6_hasKey_35 rfl (rfl) ?_
            have hx : hasK R.2.2.2.2 kd f = true := by
              unfold hasK
              exact List.any_eq_true.mpr ⟨k, List.mem_of_getElem? hk, by simp [zc19, zc31]⟩
            rw [hx] at hQ
            exact hQ
  refine ok_enter rfl (Nat.le_of_ble_eq_true rfl) ?_
  refine v_iconst dX6_hasKey_0 ?_
  refine v_istore_n dX6_hasKey_1 (Nat.le_of_ble_eq_true rfl) rfl ?_
  exact loop R.2.2.2.2.length 0 (by omega) rfl
/-! places of states -/
def pl (m : Nat) (s : St) : Nat := 2 * ((if s.2.1 = 0 then 0 else 1 + (s.2.1 - 1) * m + s.2.2.1) * m + s.1) + s.2.2.2
def stAt (m p : Nat) : St := if p / 2 / m = 0 then (p / 2 % m, 0, 0, p % 2) else (p / 2 % m, 1 + (p / 2 / m - 1) / m, (p / 2 / m - 1) % m, p % 2)
def nPl (m : Nat) : Nat := 2 * m * (1 + 3 * m)
theorem ok_places {m : Nat} (hr : vIsR r) (h3 : σ.1 r 3 = nI m) (hQ : Q (some (.int (nI (nPl m)))) σ) : Ok D mX6_places [.ref r] σ Q := by
  have hlay := hr.lay
  refine ok_enter rfl (Nat.le_of_ble_eq_true rfl) ?_
  refine v_iconst dX6_places_0 ?_
  refine v_aload_n dX6_places_1 rfl ?_
  refine v_getI dX6_places_2 fl_RX6_21 hlay ?_
  rw [h3]
  refine v_imul dX6_places_5 ?_
  refine v_iconst dX6_places_6 ?_
  refine v_iconst dX6_places_7 ?_
  refine v_aload_n dX6_places_8 rfl ?_
  refine v_getI dX6_places_9 fl_RX6_21 hlay ?_
  rw [h3]
  refine v_imul dX6_places_12 ?_
  refine v_iadd dX6_places_13 ?_
  refine v_imul dX6_places_14 ?_
  refine v_ireturn dX6_places_15 rfl (rfl) ?_
  rw [show (2 : Int32) = nI 2 from rfl, show (3 : Int32) = nI 3 from rfl, show (1 : Int32) = nI 1 from rfl, pk_mul, pk_mul, nI_add, pk_mul]
  exact hQ
theorem ok_placeOf {m : Nat} {s : St} (hr : vIsR r) (h3 : σ.1 r 3 = nI m) (hm : m ≤ 100) (hs : vS m s) (hQ : Q (some (.int (nI (pl m s)))) σ) : Ok (D + 1) mX6_placeOf [.ref r, .int (nI (ps s))] σ Q := by
  have hlay := hr.lay
  obtain ⟨s1, s2, s3, s4, s5⟩ := id hs
  have e1 := ps_sh hm hs
  have e2 := ps_he hm hs
  have e3 := ps_si hm hs
  have e4 := ps_ty hm hs
  unfold pl at hQ
  refine ok_enter rfl (Nat.le_of_ble_eq_true rfl) ?_
  refine v_iload_n dX6_placeOf_0 rfl ?_
  refine v_callS1 dX6_placeOf_1 ms_RX6_59 (Nat.le_of_ble_eq_true rfl) ?_
  refine ok_signIn ?_
  rw [e3]
  show V _ _ _ _ (_ :: _) _ _
  refine v_istore_n dX6_placeOf_4 (Nat.le_of_ble_eq_true rfl) rfl ?_
  refine v_iload_n dX6_placeOf_5 rfl ?_
  refine v_if_ne dX6_placeOf_6 (fun zc6 => ?_) (fun zc6 => ?_)
  · rw [show (0 : Int32) = nI 0 from rfl, nI_eq (by omega) (by omega)] at zc6
    refine v_iconst dX6_placeOf_13 ?_
    refine v_iload_n dX6_placeOf_14 rfl ?_
    refine v_iconst dX6_placeOf_15 ?_
    refine v_isub dX6_placeOf_16 ?_
    refine v_aload_n dX6_placeOf_17 rfl ?_
    refine v_getI dX6_placeOf_18 fl_RX6_21 hlay ?_
    rw [h3]
    refine v_imul dX6_placeOf_21 ?_
    refine v_iadd dX6_placeOf_22 ?_
    refine v_iload_n dX6_placeOf_23 rfl ?_
    refine v_callS1 dX6_placeOf_24 ms_RX6_66 (Nat.le_of_ble_eq_true rfl) ?_
    refine ok_heldIn ?_
    rw [e2]
    show V _ _ _ _ (_ :: _) _ _
    refine v_iadd dX6_placeOf_27 ?_
    refine v_istore_n dX6_placeOf_28 (Nat.le_of_ble_eq_true rfl) rfl ?_
    refine v_iconst dX6_placeOf_29 ?_
    refine v_iload_n dX6_placeOf_30 rfl ?_
    refine v_aload_n dX6_placeOf_31 rfl ?_
    refine v_getI dX6_placeOf_32 fl_RX6_21 hlay ?_
    rw [h3]
    refine v_imul dX6_placeOf_35 ?_
    refine v_iload_n dX6_placeOf_36 rfl ?_
    refine v_callS1 dX6_placeOf_37 ms_RX6_63 (Nat.le_of_ble_eq_true rfl) ?_
    refine ok_shownIn ?_
    rw [e1]
    show V _ _ _ _ (_ :: _) _ _
    refine v_iadd dX6_placeOf_40 ?_
    refine v_imul dX6_placeOf_41 ?_
    refine v_iload_n dX6_placeOf_42 rfl ?_
    refine v_callS1 dX6_placeOf_43 ms_RX6_74 (Nat.le_of_ble_eq_true rfl) ?_
    refine ok_isTyped ?_
    show V _ _ _ _ (_ :: _) _ _
    refine v_if_eq dX6_placeOf_46 (fun zc46 => ?_) (fun zc46 => ?_)
    · rw [show ((if nI (ps s) &&& 65536 = 0 then (0 : Int32) else 1) = 0 ↔ s.2.2.2 = 0) by by_cases h : s.2.2.2 = 0; simp [e4, h]; simp [e4, h]] at zc46
      refine v_iconst dX6_placeOf_53 ?_
      refine v_iadd dX6_placeOf_54 ?_
      refine v_ireturn dX6_placeOf_55 rfl (rfl) ?_
      rw [show (2 : Int32) = nI 2 from rfl]
      try rw [show (0 : Int32) = nI 0 from rfl]
      try rw [show (1 : Int32) = nI 1 from rfl]
      first | rw [if_pos (by omega)] at hQ | rw [if_neg (by omega)] at hQ
      try rw [pk_sub (by omega)]
      simp only [pk_mul, nI_add]
      first | (rw [show s.2.2.2 = 0 by omega] at hQ; exact hQ) | (rw [show s.2.2.2 = 1 by omega] at hQ; exact hQ)
    · rw [show ((if nI (ps s) &&& 65536 = 0 then (0 : Int32) else 1) = 0 ↔ s.2.2.2 = 0) by by_cases h : s.2.2.2 = 0; simp [e4, h]; simp [e4, h]] at zc46
      refine v_iconst dX6_placeOf_49 ?_
      refine v_goto dX6_placeOf_50 ?_
      refine v_iadd dX6_placeOf_54 ?_
      refine v_ireturn dX6_placeOf_55 rfl (rfl) ?_
      rw [show (2 : Int32) = nI 2 from rfl]
      try rw [show (0 : Int32) = nI 0 from rfl]
      try rw [show (1 : Int32) = nI 1 from rfl]
      first | rw [if_pos (by omega)] at hQ | rw [if_neg (by omega)] at hQ
      try rw [pk_sub (by omega)]
      simp only [pk_mul, nI_add]
      first | (rw [show s.2.2.2 = 0 by omega] at hQ; exact hQ) | (rw [show s.2.2.2 = 1 by omega] at hQ; exact hQ)
  · rw [show (0 : Int32) = nI 0 from rfl, nI_eq (by omega) (by omega)] at zc6
    refine v_iconst dX6_placeOf_9 ?_
    refine v_goto dX6_placeOf_10 ?_
    refine v_istore_n dX6_placeOf_28 (Nat.le_of_ble_eq_true rfl) rfl ?_
    refine v_iconst dX6_placeOf_29 ?_
    refine v_iload_n dX6_placeOf_30 rfl ?_
    refine v_aload_n dX6_placeOf_31 rfl ?_
    refine v_getI dX6_placeOf_32 fl_RX6_21 hlay ?_
    rw [h3]
    refine v_imul dX6_placeOf_35 ?_
    refine v_iload_n dX6_placeOf_36 rfl ?_
    refine v_callS1 dX6_placeOf_37 ms_RX6_63 (Nat.le_of_ble_eq_true rfl) ?_
    refine ok_shownIn ?_
    rw [e1]
    show V _ _ _ _ (_ :: _) _ _
    refine v_iadd dX6_placeOf_40 ?_
    refine v_imul dX6_placeOf_41 ?_
    refine v_iload_n dX6_placeOf_42 rfl ?_
    refine v_callS1 dX6_placeOf_43 ms_RX6_74 (Nat.le_of_ble_eq_true rfl) ?_
    refine ok_isTyped ?_
    show V _ _ _ _ (_ :: _) _ _
    refine v_if_eq dX6_placeOf_46 (fun zc46 => ?_) (fun zc46 => ?_)
    · rw [show ((if nI (ps s) &&& 65536 = 0 then (0 : Int32) else 1) = 0 ↔ s.2.2.2 = 0) by by_cases h : s.2.2.2 = 0; simp [e4, h]; simp [e4, h]] at zc46
      refine v_iconst dX6_placeOf_53 ?_
      refine v_iadd dX6_placeOf_54 ?_
      refine v_ireturn dX6_placeOf_55 rfl (rfl) ?_
      rw [show (2 : Int32) = nI 2 from rfl]
      try rw [show (0 : Int32) = nI 0 from rfl]
      try rw [show (1 : Int32) = nI 1 from rfl]
      first | rw [if_pos (by omega)] at hQ | rw [if_neg (by omega)] at hQ
      try rw [pk_sub (by omega)]
      simp only [pk_mul, nI_add]
      first | (rw [show s.2.2.2 = 0 by omega] at hQ; exact hQ) | (rw [show s.2.2.2 = 1 by omega] at hQ; exact hQ)
    · rw [show ((if nI (ps s) &&& 65536 = 0 then (0 : Int32) else 1) = 0 ↔ s.2.2.2 = 0) by by_cases h : s.2.2.2 = 0; simp [e4, h]; simp [e4, h]] at zc46
      refine v_iconst dX6_placeOf_49 ?_
      refine v_goto dX6_placeOf_50 ?_
      refine v_iadd dX6_placeOf_54 ?_
      refine v_ireturn dX6_placeOf_55 rfl (rfl) ?_
      rw [show (2 : Int32) = nI 2 from rfl]
      try rw [show (0 : Int32) = nI 0 from rfl]
      try rw [show (1 : Int32) = nI 1 from rfl]
      first | rw [if_pos (by omega)] at hQ | rw [if_neg (by omega)] at hQ
      try rw [pk_sub (by omega)]
      simp only [pk_mul, nI_add]
      first | (rw [show s.2.2.2 = 0 by omega] at hQ; exact hQ) | (rw [show s.2.2.2 = 1 by omega] at hQ; exact hQ)
end RT
