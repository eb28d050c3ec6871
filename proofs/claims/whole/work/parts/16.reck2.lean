/-! ===== a stroke of the class's reckoner ===== -/
section RT
variable {D : Nat} {σ : Wd} {Q : Option Value → Wd → Prop} {r : Nat} {R : Rk}
theorem ok_afterStroke {s : St} {i n : Nat} {k : Ky} (hr : vIsR r) (hR : RepR σ r R) (hn : n ≤ 9) (hv : vR n R) (hs : vS R.2.2.2.1 s) (hi : R.2.2.2.2[i]? = some k) (hQ : Q (some (.int (nI (ps (rk_str R s k))))) σ) : Ok (D + 3) mX6_afterStroke [.ref r, .int (nI (ps s)), .int (nI i)] σ Q := by
  have hmem : k ∈ R.2.2.2.2 := List.mem_of_getElem? hi
  have hil := (List.getElem?_eq_some_iff.mp hi).1
  have hsv := rk_str_v hv hmem hs
  rcases hv with e | ⟨v1, v2, v3, v4, v5, v6, v7, v8, v9⟩
  · subst e; exact absurd hmem List.not_mem_nil
  obtain ⟨k1, k2, k3, k4⟩ := v9 k hmem
  have hlay := hr.lay
  obtain ⟨h0, h1, h2, h3, h4, h5⟩ := id hR
  obtain ⟨a1, a2, a3, a4⟩ := h5 i k hi
  obtain ⟨s1, s2, s3, s4, s5⟩ := id hs
  have hm : 0 < R.2.2.2.1 := by omega
  have e1 := ps_sh v7 hs
  have e2 := ps_he v7 hs
  have e3 := ps_si v7 hs
  have hrl := rk_rec_lt (R := R) (sign := s.2.1) (x := s.2.2.1) (y := s.1) hm
  have hcl : (nI i).toNatClampNeg = i := nI_clamp (by omega)
  have hin : vp_in (nI i) 9 := vp_in_nI (by omega) (by omega)
  refine ok_enter rfl (Nat.le_of_ble_eq_true rfl) ?_
  refine v_iload_n dX6_afterStroke_0 rfl ?_
  refine v_if_lt dX6_afterStroke_1 (fun zc1 => ?_) (fun zc1 => ?_)
  · exact absurd zc1 (nI_pos (by omega))
  · refine v_iload_n dX6_afterStroke_4 rfl ?_
    refine v_aload_n dX6_afterStroke_5 rfl ?_
    refine v_getI dX6_afterStroke_6 fl_RX6_24 hlay ?_
    rw [h4]
    refine v_icmp_ge dX6_afterStroke_9 (fun zc9 => ?_) (fun zc9 => ?_)
    · exact absurd zc9 (nI_ge (by omega) (by omega))
    · refine v_iload_n dX6_afterStroke_12 rfl ?_
      refine v_bipush dX6_afterStroke_13 ?_
      refine v_icmp_lt dX6_afterStroke_15 (fun zc15 => ?_) (fun zc15 => ?_)
      · refine v_aload_n dX6_afterStroke_20 rfl ?_
        refine v_getR dX6_afterStroke_21 fl_RX6_27 hlay hr.q5 ?_
        refine v_iload_n dX6_afterStroke_24 rfl ?_
        refine v_iaload dX6_afterStroke_25 hr.l1 (by exact hin) ?_
        rw [hcl, a1]
        rcases (show k.1 = 0 ∨ (k.1 = 1 ∨ k.1 = 2 ∨ k.1 = 3) ∨ k.1 = 4 ∨ k.1 = 5 ∨ k.1 = 6 ∨ k.1 = 7 by omega) with e | e | e | e | e | e
        · rw [e]
          refine v_tableIn (tgt := 72) dX6_afterStroke_26 (by decide) (by decide) rfl (by decide) ?_
          refine v_aload_n dX6_afterStroke_72 rfl ?_
          refine v_iload_n dX6_afterStroke_73 rfl ?_
          refine v_aload_n dX6_afterStroke_74 rfl ?_
          refine v_getR dX6_afterStroke_75 fl_RX6_34 hlay hr.q7 ?_
          refine v_iload_n dX6_afterStroke_78 rfl ?_
          refine v_iaload dX6_afterStroke_79 hr.l3 (by exact hin) ?_
          rw [hcl, a3]
          rw [iz_toN (by omega)]
          refine v_callV2 dX6_afterStroke_80 mv_RX6_52 hlay rfl (Nat.le_of_ble_eq_true rfl) ?_
          refine ok_afterFigure hr hR v1 v3 hm v7 hs (by omega) ?_
          show V _ _ _ _ (_ :: _) _ _
          refine v_ireturn dX6_afterStroke_83 rfl (rfl) ?_
          unfold rk_str at hQ
          rw [if_pos e] at hQ
          exact hQ
        · have hsw : V mX6_afterStroke (D + 3) 84 (vm_arg [Value.ref r, Value.int (nI (ps s)), Value.int (nI i)] ++ List.replicate (mX6_afterStroke.2.2.1 - (vm_arg [Value.ref r, Value.int (nI (ps s)), Value.int (nI i)]).length) none) [] σ Q := by
            refine v_aload_n dX6_afterStroke_84 rfl ?_
            refine v_iload_n dX6_afterStroke_85 rfl ?_
            refine v_aload_n dX6_afterStroke_86 rfl ?_
            refine v_getR dX6_afterStroke_87 fl_RX6_27 hlay hr.q5 ?_
            refine v_iload_n dX6_afterStroke_90 rfl ?_
            refine v_iaload dX6_afterStroke_91 hr.l1 (by exact hin) ?_
            rw [hcl, a1]
            refine v_callV2 dX6_afterStroke_92 mv_RX6_56 hlay rfl (Nat.le_of_ble_eq_true rfl) ?_
            refine ok_afterSign hr hR v1 hm v7 hs (by omega) ?_
            show V _ _ _ _ (_ :: _) _ _
            refine v_ireturn dX6_afterStroke_95 rfl (rfl) ?_
            unfold rk_str at hQ
            rw [if_neg (by omega), if_pos (by omega)] at hQ
            exact hQ
          rcases e with e | e | e
          · rw [e]
            exact v_tableIn (tgt := 84) dX6_afterStroke_26 (by decide) (by decide) rfl (by decide) hsw
          · rw [e]
            exact v_tableIn (tgt := 84) dX6_afterStroke_26 (by decide) (by decide) rfl (by decide) hsw
          · rw [e]
            exact v_tableIn (tgt := 84) dX6_afterStroke_26 (by decide) (by decide) rfl (by decide) hsw
        · rw [e]
          refine v_tableIn (tgt := 96) dX6_afterStroke_26 (by decide) (by decide) rfl (by decide) ?_
          refine v_iload_n dX6_afterStroke_96 rfl ?_
          refine v_callS1 dX6_afterStroke_97 ms_RX6_59 (Nat.le_of_ble_eq_true rfl) ?_
          refine ok_signIn ?_
          rw [e3]
          show V _ _ _ _ (_ :: _) _ _
          refine v_if_ne dX6_afterStroke_100 (fun zc100 => ?_) (fun zc100 => ?_)
          · rw [show (0 : Int32) = nI 0 from rfl, nI_eq (by omega) (by omega)] at zc100
            refine v_aload_n dX6_afterStroke_110 rfl ?_
            refine v_iload_n dX6_afterStroke_111 rfl ?_
            refine v_callS1 dX6_afterStroke_112 ms_RX6_66 (Nat.le_of_ble_eq_true rfl) ?_
            refine ok_heldIn ?_
            rw [e2]
            show V _ _ _ _ (_ :: _) _ _
            refine v_iload_n dX6_afterStroke_115 rfl ?_
            refine v_callS1 dX6_afterStroke_116 ms_RX6_59 (Nat.le_of_ble_eq_true rfl) ?_
            refine ok_signIn ?_
            rw [e3]
            show V _ _ _ _ (_ :: _) _ _
            refine v_iload_n dX6_afterStroke_119 rfl ?_
            refine v_callS1 dX6_afterStroke_120 ms_RX6_63 (Nat.le_of_ble_eq_true rfl) ?_
            refine ok_shownIn ?_
            rw [e1]
            show V _ _ _ _ (_ :: _) _ _
            refine v_callV3 dX6_afterStroke_123 mv_RX6_69 hlay rfl (Nat.le_of_ble_eq_true rfl) ?_
            refine ok_reckon hr hR v1 hm v7 (by omega) (by omega) (by omega) ?_
            show V _ _ _ _ (_ :: _) _ _
            refine v_ireturn dX6_afterStroke_126 rfl (rfl) ?_
            unfold rk_str at hQ
            rw [if_neg (by omega), if_neg (by omega), if_pos e] at hQ
            first | (rw [if_pos (by omega)] at hQ; simpa [ps] using hQ) | (rw [if_neg (by omega)] at hQ; simpa [ps] using hQ)
          · rw [show (0 : Int32) = nI 0 from rfl, nI_eq (by omega) (by omega)] at zc100
            refine v_iload_n dX6_afterStroke_103 rfl ?_
            refine v_callS1 dX6_afterStroke_104 ms_RX6_63 (Nat.le_of_ble_eq_true rfl) ?_
            refine ok_shownIn ?_
            rw [e1]
            show V _ _ _ _ (_ :: _) _ _
            refine v_goto dX6_afterStroke_107 ?_
            refine v_ireturn dX6_afterStroke_126 rfl (rfl) ?_
            unfold rk_str at hQ
            rw [if_neg (by omega), if_neg (by omega), if_pos e] at hQ
            first | (rw [if_pos (by omega)] at hQ; simpa [ps] using hQ) | (rw [if_neg (by omega)] at hQ; simpa [ps] using hQ)
        · rw [e]
          refine v_tableIn (tgt := 127) dX6_afterStroke_26 (by decide) (by decide) rfl (by decide) ?_
          refine v_iconst dX6_afterStroke_127 ?_
          refine v_ireturn dX6_afterStroke_128 rfl (rfl) ?_
          unfold rk_str at hQ
          rw [if_neg (by omega), if_neg (by omega), if_neg (by omega), if_pos e] at hQ
          exact hQ
        · rw [e]
          refine v_tableIn (tgt := 129) dX6_afterStroke_26 (by decide) (by decide) rfl (by decide) ?_
          refine v_iload_n dX6_afterStroke_129 rfl ?_
          refine v_ldc dX6_afterStroke_130 cn_RX6_73 ?_
          refine v_iand dX6_afterStroke_132 ?_
          refine v_aload_n dX6_afterStroke_133 rfl ?_
          refine v_iload_n dX6_afterStroke_134 rfl ?_
          refine v_callS1 dX6_afterStroke_135 ms_RX6_63 (Nat.le_of_ble_eq_true rfl) ?_
          refine ok_shownIn ?_
          rw [e1]
          show V _ _ _ _ (_ :: _) _ _
          refine v_aload_n dX6_afterStroke_138 rfl ?_
          refine v_getR dX6_afterStroke_139 fl_RX6_37 hlay hr.q8 ?_
          refine v_iload_n dX6_afterStroke_142 rfl ?_
          refine v_iaload dX6_afterStroke_143 hr.l4 (by exact hin) ?_
          rw [hcl, a4]
          refine v_aload_n dX6_afterStroke_144 rfl ?_
          refine v_getR dX6_afterStroke_145 fl_RX6_34 hlay hr.q7 ?_
          refine v_iload_n dX6_afterStroke_148 rfl ?_
          refine v_iaload dX6_afterStroke_149 hr.l3 (by exact hin) ?_
          rw [hcl, a3]
          rw [iz_toN (by omega), iz_toN (by omega)]
          refine v_callV3 dX6_afterStroke_150 mv_RX6_69 hlay rfl (Nat.le_of_ble_eq_true rfl) ?_
          refine ok_reckon hr hR v1 hm v7 (by omega) (by omega) (by omega) ?_
          show V _ _ _ _ (_ :: _) _ _
          refine v_ior dX6_afterStroke_153 ?_
          refine v_ireturn dX6_afterStroke_154 rfl (rfl) ?_
          unfold rk_str at hQ
          rw [if_neg (by omega), if_neg (by omega), if_neg (by omega), if_neg (by omega), if_pos e] at hQ
          have hr6 := rk_rec_lt (R := R) (sign := k.2.2.2.toNat) (x := s.1) (y := k.2.2.1.toNat) hm
          rw [ps_now v7 hs (by omega)]
          exact hQ
        · rw [e]
          refine v_tableIn (tgt := 155) dX6_afterStroke_26 (by decide) (by decide) rfl (by decide) ?_
          refine v_aload_n dX6_afterStroke_155 rfl ?_
          refine v_aload_n dX6_afterStroke_156 rfl ?_
          refine v_iload_n dX6_afterStroke_157 rfl ?_
          refine v_aload_n dX6_afterStroke_158 rfl ?_
          refine v_getR dX6_afterStroke_159 fl_RX6_34 hlay hr.q7 ?_
          refine v_iload_n dX6_afterStroke_162 rfl ?_
          refine v_iaload dX6_afterStroke_163 hr.l3 (by exact hin) ?_
          rw [hcl, a3]
          rw [iz_toN (by omega)]
          refine v_callV2 dX6_afterStroke_164 mv_RX6_52 hlay rfl (Nat.le_of_ble_eq_true rfl) ?_
          refine ok_afterFigure hr hR v1 v3 hm v7 hs (by omega) ?_
          show V _ _ _ _ (_ :: _) _ _
          refine v_aload_n dX6_afterStroke_167 rfl ?_
          refine v_getR dX6_afterStroke_168 fl_RX6_37 hlay hr.q8 ?_
          refine v_iload_n dX6_afterStroke_171 rfl ?_
          refine v_iaload dX6_afterStroke_172 hr.l4 (by exact hin) ?_
          rw [hcl, a4]
          rw [iz_toN (by omega)]
          refine v_callV2 dX6_afterStroke_173 mv_RX6_52 hlay rfl (Nat.le_of_ble_eq_true rfl) ?_
          refine ok_afterFigure hr hR v1 v3 hm v7 (rk_fig_v hm (by omega) hs) (by omega) ?_
          show V _ _ _ _ (_ :: _) _ _
          refine v_ireturn dX6_afterStroke_176 rfl (rfl) ?_
          unfold rk_str at hQ
          rw [if_neg (by omega), if_neg (by omega), if_neg (by omega), if_neg (by omega), if_neg (by omega)] at hQ
          exact hQ
      · exact absurd (show nI i < 9 from nI_lt (b := 9) (by omega) (by omega)) zc15
/-! worlds that differ in told places alone -/
def Fr (P : Nat → Nat → Prop) (σ σ' : Wd) : Prop := (∀ a b, ¬ P a b → σ'.1 a b = σ.1 a b) ∧ σ'.2 = σ.2
theorem Fr.rf {P : Nat → Nat → Prop} : Fr P σ σ := ⟨fun _ _ _ => rfl, rfl⟩
theorem Fr.tr {P : Nat → Nat → Prop} {a b c : Wd} (h1 : Fr P a b) (h2 : Fr P b c) : Fr P a c := ⟨fun x y h => by rw [h2.1 x y h, h1.1 x y h], by rw [h2.2, h1.2]⟩
theorem Fr.mn {P P' : Nat → Nat → Prop} {a b : Wd} (h1 : Fr P a b) (h : ∀ x y, P x y → P' x y) : Fr P' a b := ⟨fun x y hh => h1.1 x y (fun hp => hh (h x y hp)), h1.2⟩
theorem Fr.set {P : Nat → Nat → Prop} {a b : Wd} {k i : Nat} {x : Int32} (h1 : Fr P a b) (h : P k i) : Fr P a (setI b k i x) := ⟨fun u v hh => by
  show (if u = k ∧ v = i then x else b.1 u v) = a.1 u v
  rw [if_neg (fun e => hh (by rw [e.1, e.2]; exact h))]
  exact h1.1 u v hh, h1.2⟩
theorem setI_get {k i a b : Nat} {x : Int32} : (setI σ k i x).1 a b = if a = k ∧ b = i then x else σ.1 a b := rfl
theorem setI_same {k i : Nat} {x : Int32} : (setI σ k i x).1 k i = x := by simp [setI]
theorem setI_ne {k i a b : Nat} {x : Int32} (h : ¬ (a = k ∧ b = i)) : (setI σ k i x).1 a b = σ.1 a b := by
  show (if a = k ∧ b = i then x else σ.1 a b) = _
  rw [if_neg h]
/-- a reckoner stays what it is, where its cells do -/
theorem RepR.kept {σ' : Wd} (h : RepR σ r R) (hk : ∀ a b, r ≤ a → a ≤ r + 4 → σ'.1 a b = σ.1 a b) : RepR σ' r R := by
  obtain ⟨h0, h1, h2, h3, h4, h5⟩ := h
  refine ⟨by rw [hk _ _ (by omega) (by omega)]; exact h0, by rw [hk _ _ (by omega) (by omega)]; exact h1, by rw [hk _ _ (by omega) (by omega)]; exact h2, by rw [hk _ _ (by omega) (by omega)]; exact h3, by rw [hk _ _ (by omega) (by omega)]; exact h4, fun i k hi => ?_⟩
  rw [hk _ _ (by omega) (by omega), hk _ _ (by omega) (by omega), hk _ _ (by omega) (by omega), hk _ _ (by omega) (by omega)]
  exact h5 i k hi
theorem ok_empty (hr : vIsR r) (hQ : ∀ σ', Fr (fun a b => a = r ∧ b ≤ 4) σ σ' → RepR σ' r (-1, 0, 0, 0, []) → Q none σ') : Ok (D + 1) mX6_empty [.ref r] σ Q := by
  have hlay := hr.lay
  refine ok_enter rfl (Nat.le_of_ble_eq_true rfl) ?_
  refine v_aload_n dX6_empty_0 rfl ?_
  refine v_iconst dX6_empty_1 ?_
  refine v_iconst dX6_empty_2 ?_
  refine v_iconst dX6_empty_3 ?_
  refine v_iconst dX6_empty_4 ?_
  refine v_callV4 dX6_empty_5 mv_RX6_40 hlay rfl (Nat.le_of_ble_eq_true rfl) ?_
  refine ok_enter rfl (Nat.le_of_ble_eq_true rfl) ?_
  show V _ _ _ _ _ _ _
  skip
  sorry
end RT
