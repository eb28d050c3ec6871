/-! ===== told numbers one behind the other: the class's call ===== -/
def LiF (σ τ : Wd) : Prop := (∀ p b, ¬ (p = 24 ∨ p = 25 ∨ (34 ≤ p ∧ p ≤ 37) ∨ (p = 22 ∧ (b = 3 ∨ b = 4)) ∨ (p = 33 ∧ (b = 3 ∨ b = 6))) → τ.1 p b = σ.1 p b) ∧ (∀ p, p ≠ 33 → τ.2.2 p = σ.2.2 p) ∧ ∀ p, p ≠ 23 → τ.2.1 p = σ.2.1 p
def LiA (R : Rk) (s : St) (tg : List Nat) (w : Int32) : Prop := ∃ f, LeastN (PV R [(s, 0, 0, 0)] tg) f ∧ w = iz f
section CT
variable {D : Nat} {σ τ τ' : Wd} {Q : Option Value → Wd → Prop} {R : Rk} {s t : St} {q q' E E' src : List En} {a b c g h i k n m d r U B0 : Nat} {tg : List Nat}
theorem LiA.one {v w : Int32} (h1 : LiA R s tg v) (h2 : LiA R s tg w) : v = w := by
  obtain ⟨f, a1, rfl⟩ := h1
  obtain ⟨g, b1, rfl⟩ := h2
  rw [a1.one b1]
theorem zI_sub {a b : Nat} (h : b ≤ a) : nI a - nI b = nI (a - b) := by
  rw [iz_nI, iz_nI, iz_nI, iz_sub]
  congr 1
  omega
theorem LEQ.sy {P P' : Nat → Prop} (h : LEQ P P') : LEQ P' P := ⟨h.2, h.1⟩
theorem StC.zero (hC : StC σ R s) (h5 : τ.1 26 5 = σ.1 26 5) (h7 : ∀ b, τ.1 27 b = σ.1 27 b) (h4 : τ.1 22 4 = 0) : StC τ R s := by
  obtain ⟨a1, a2, a3⟩ := hC
  refine ⟨by rw [h5]; exact a1, Or.inl h4, fun hm => ⟨fun h5' v hvm => ?_, fun h4' => absurd h4' (by rw [h4]; decide)⟩⟩
  rw [h5] at h5'
  rw [h7]
  exact (a3 hm).1 h5' v hvm
theorem StC.kp (hC : StC σ R s) (h1 : ∀ p b, 22 ≤ p → p ≤ 29 → τ.1 p b = σ.1 p b) (h2 : τ.2.1 23 = σ.2.1 23) : StC τ R s := by
  obtain ⟨a1, a2, a3⟩ := hC
  have e5 := h1 26 5 (by omega) (by omega)
  have e4 := h1 22 4 (by omega) (by omega)
  refine ⟨by rw [e5]; exact a1, by rw [e4]; exact a2, fun hm => ⟨fun h5' v hvm => ?_, fun h4' => ?_⟩⟩
  · rw [e5] at h5'
    rw [h1 _ _ (by omega) (by omega)]
    exact (a3 hm).1 h5' v hvm
  · rw [e4] at h4'
    obtain ⟨b1, q, b2, b3, ⟨c1, c2, c3⟩, b5, b6⟩ := (a3 hm).2 h4'
    refine ⟨by rw [e5]; exact b1, q, b2, b3, ⟨by rw [h1 _ _ (by omega) (by omega)]; exact c1, fun j e hj => by rw [h1 _ _ (by omega) (by omega), h1 _ _ (by omega) (by omega)]; exact c2 j e hj, fun n hn => ?_⟩, fun v hv => ?_, b6⟩
    · have e : seen τ n = seen σ n := by unfold seen; rw [h2]
      rw [e]
      exact c3 n hn
    · rw [h1 _ _ (by omega) (by omega), h1 _ _ (by omega) (by omega)]
      exact b5 v hv
theorem LiF.rf : LiF σ σ := ⟨fun _ _ _ => rfl, fun _ _ => rfl, fun _ _ => rfl⟩
theorem LiF.y {υ : Wd} (h : LiF σ τ) (hc : 34 ≤ c ∧ c ≤ 36) (hy : YF c τ υ) : LiF σ υ := ⟨fun p b hh => by rw [hy.1 p b (by omega)]; exact h.1 p b hh, fun p hp => by rw [hy.2.1]; exact h.2.1 p hp, fun p hp => by rw [hy.2.2 p hp]; exact h.2.2 p hp⟩
theorem setR_ne {k i a b x : Nat} (h : ¬ (a = k ∧ b = i)) : (setR σ k i x).2.2 a b = σ.2.2 a b := if_neg h
theorem setR_same {k i x : Nat} : (setR σ k i x).2.2 k i = x := if_pos ⟨rfl, rfl⟩
theorem ok_ends (hA : AP σ a c) (hQ : ∀ τ, AP τ c a → τ.1 33 3 = σ.1 33 6 → (∀ p b, ¬ (p = 33 ∧ b = 3) → τ.1 p b = σ.1 p b) → (∀ p, p ≠ 33 → τ.2.2 p = σ.2.2 p) → τ.2.1 = σ.2.1 → Q none τ) : Ok D mX1_endsBecomeStarts [.ref 33] σ Q := by
  refine ok_enter rfl (Nat.le_of_ble_eq_true rfl) ?_
  refine v_aload_n dX1_endsBecomeStarts_0 rfl ?_
  refine v_getM dX1_endsBecomeStarts_1 fl_RX1_9 rfl ?_
  rw [hA.2.1]
  refine v_astore_n dX1_endsBecomeStarts_4 (Nat.le_of_ble_eq_true rfl) rfl ?_
  refine v_aload_n dX1_endsBecomeStarts_5 rfl ?_
  refine v_getM dX1_endsBecomeStarts_6 fl_RX1_15 rfl ?_
  rw [hA.2.2.1]
  refine v_astore_n dX1_endsBecomeStarts_9 (Nat.le_of_ble_eq_true rfl) rfl ?_
  refine v_aload_n dX1_endsBecomeStarts_10 rfl ?_
  refine v_aload_n dX1_endsBecomeStarts_11 rfl ?_
  refine v_getM dX1_endsBecomeStarts_12 fl_RX1_22 rfl ?_
  rw [hA.2.2.2.1]
  refine v_putM dX1_endsBecomeStarts_15 fp_RX1_9 rfl rfl ?_
  refine v_aload_n dX1_endsBecomeStarts_18 rfl ?_
  refine v_aload_n dX1_endsBecomeStarts_19 rfl ?_
  refine v_getM dX1_endsBecomeStarts_20 fl_RX1_25 rfl ?_
  rw [setR_ne (by omega), hA.2.2.2.2]
  refine v_putM dX1_endsBecomeStarts_23 fp_RX1_15 rfl rfl ?_
  refine v_aload_n dX1_endsBecomeStarts_26 rfl ?_
  refine v_aload_n dX1_endsBecomeStarts_27 rfl ?_
  refine v_getI dX1_endsBecomeStarts_28 fl_RX1_28 rfl ?_
  refine v_putI dX1_endsBecomeStarts_31 fp_RX1_18 rfl ?_
  refine v_aload_n dX1_endsBecomeStarts_34 rfl ?_
  refine v_aload_n dX1_endsBecomeStarts_35 rfl ?_
  refine v_putM dX1_endsBecomeStarts_36 fp_RX1_22 rfl rfl ?_
  refine v_aload_n dX1_endsBecomeStarts_39 rfl ?_
  refine v_aload_n dX1_endsBecomeStarts_40 rfl ?_
  refine v_putM dX1_endsBecomeStarts_41 fp_RX1_25 rfl rfl ?_
  refine v_return dX1_endsBecomeStarts_44 rfl ?_
  refine hQ _ ⟨hA.1.symm.imp (fun h => ⟨h.2, h.1⟩) (fun h => ⟨h.2, h.1⟩), ?_, ?_, ?_, ?_⟩ ?_ (fun p b hp => ?_) (fun p hp => ?_) rfl
  · rw [setR_ne (by omega), setR_ne (by omega)]; show (setR (setR σ 33 1 c) 33 2 (c + 1)).2.2 33 1 = c; rw [setR_ne (by omega), setR_same]
  · rw [setR_ne (by omega), setR_ne (by omega)]; show (setR (setR σ 33 1 c) 33 2 (c + 1)).2.2 33 2 = c + 1; rw [setR_same]
  · rw [setR_ne (by omega), setR_same]
  · rw [setR_same]
  · show (setI (setR (setR σ 33 1 c) 33 2 (c + 1)) 33 3 _).1 33 3 = _; rw [setI_same]; rfl
  · show (setI (setR (setR σ 33 1 c) 33 2 (c + 1)) 33 3 _).1 p b = _; rw [setI_ne hp]; rfl
  · funext b; rw [setR_ne (by omega), setR_ne (by omega)]; show (setR (setR σ 33 1 c) 33 2 (c + 1)).2.2 p b = _; rw [setR_ne (by omega), setR_ne (by omega)]
theorem ok_forAll (hr : vIsR r) (hR : RepR σ r R) (hv : vR 8 R) (hs : vS R.2.2.2.1 s) (hp0 : σ.1 13 0 = nI (ps s)) (hT : RepT σ 13 tg) (hl : tg.length ≤ 6) (ht : ∀ v ∈ tg, v < R.2.2.2.1) (hA : AP σ a c) (hS : StC σ R s) (hQ : ∀ τ w a' c', LiF σ τ → AP τ a' c' → StC τ R s → LiA R s tg w → Q (some (.int w)) τ) : Ok (D + 5) mX1_fewestForAll [.ref 33, .ref r, .ref 13] σ Q := by
  have hm2 := hv.m100
  have hr12 : r + 4 < 13 ∧ 3 ≤ r := by rcases hr with rfl | rfl <;> omega
  have loop : ∀ j i src a c τ x4, i + j = tg.length → LiF σ τ → AP τ a c → SR τ a src → StC τ R s → srt src → 0 < src.length → src.length ≤ 602 → (∀ x ∈ src, vS R.2.2.2.1 x.1) → (∀ x ∈ src, x.2.2.2 ≤ 60200 * i) → (∀ v, 0 < i → tg[i - 1]? = some v → ∀ x ∈ src, x.1.1 = v) → LEQ (PV R [(s, 0, 0, 0)] tg) (PV R src (tg.drop i)) → V mX1_fewestForAll (D + 5) 28 [some (.ref 33), some (.ref r), some (.ref 13), some (.int (nI i)), x4] [] τ Q := by
    intro j
    induction j with
    | zero =>
      intro i src a c τ x4 hi hF hA hSR hSt hss h0 h602 hsv hsd hsh hL
      have hTc : τ.1 13 3 = nI tg.length := by rw [hF.1 _ _ (by omega)]; exact hT.1
      rw [List.drop_of_length_le (by omega)] at hL
      have hg0 : src[0]? = some src[0] := List.getElem?_eq_getElem h0
      obtain ⟨-, c2⟩ := hSR.2 0 _ hg0
      have hfin := (PV_end (R := R) hg0 hss).eq hL.sy
      refine v_iload_n dX1_fewestForAll_28 rfl ?_
      refine v_aload_n dX1_fewestForAll_29 rfl ?_
      refine v_getI dX1_fewestForAll_30 fl_RX1_44 rfl ?_
      rw [hTc]
      refine v_icmp_ge dX1_fewestForAll_33 (fun zc33 => ?_) (fun zc33 => ?_)
      · refine v_aload_n dX1_fewestForAll_109 rfl ?_
        refine v_getM dX1_fewestForAll_110 fl_RX1_15 rfl ?_
        rw [hA.2.2.1]
        refine v_iconst dX1_fewestForAll_113 ?_
        refine v_callS2 dX1_fewestForAll_114 ms_RX1_50 (Nat.le_of_ble_eq_true rfl) ?_
        refine ok_at hA.lb (by decide) ?_
        rw [show (0 : Int32) = nI 0 from rfl, vAt_nI (by omega) (by omega), c2]
        show V _ _ _ _ (_ :: _) _ _
        refine v_ireturn dX1_fewestForAll_117 rfl (rfl) ?_
        exact hQ τ _ a c hF hA hSt ⟨_, hfin, iz_nI _⟩
      · exact absurd (nI_le (by omega) (by omega)) zc33
    | succ j ih =>
      intro i src a c τ x4 hi hF hA hSR hSt hss h0 h602 hsv hsd hsh hL
      have hTc : τ.1 13 3 = nI tg.length := by rw [hF.1 _ _ (by omega)]; exact hT.1
      have hil : i < tg.length := by omega
      have hgi : tg[i]? = some tg[i] := List.getElem?_eq_getElem hil
      have hti : τ.1 14 i = nI tg[i] := by rw [hF.1 _ _ (by omega)]; exact hT.2 i _ hgi
      have hvm := ht _ (List.getElem_mem hil)
      have hm : 0 < R.2.2.2.1 := by omega
      have hac : (34 ≤ a ∧ a ≤ 36) ∧ (34 ≤ c ∧ c ≤ 36) := by rcases hA.1 with h | h <;> omega
      rw [List.drop_eq_getElem_cons hil] at hL
      have hRR : RepR τ r R := hR.kept (fun p b q1 q2 => hF.1 _ _ (by omega))
      have k87 : ∀ (one : Bool) (x : Int32), (if one = true then (1 : Int32) else 0) = x → (one = true → tg.drop (i + 1) = []) → V mX1_fewestForAll (D + 5) 87 [some (.ref 33), some (.ref r), some (.ref 13), some (.int (nI i)), some (.int (nI tg[i]))] [.int x, .int (nI tg[i]), .ref r, .ref 33] τ Q := by
        intro one x hx ho
        subst hx
        refine v_callV3 dX1_fewestForAll_87 mv_RX1_54 rfl rfl (Nat.le_of_ble_eq_true rfl) ?_
        refine ok_chspread (B0 := 60200 * i) one hA hr hRR hv hm hvm hSR hsv hss h602 hsd (by omega) (fun τ2 E f1 f2 f3 f4 f5 f6 f7 => ?_)
        have hEl := show_len hm hm2 f6 (fun e he => (f7 e he).1)
        have hF2 := hF.y hac.2 f1
        have hS2 := hSt.zero (f1.1 _ _ (by omega)) (fun b => f1.1 _ _ (by omega)) f2
        have hA2 := hA.kept f1.2.1
        have hL2 := hL.tr (f4.leq ho)
        show V _ _ _ _ _ _ _
        refine v_aload_n dX1_fewestForAll_90 rfl ?_
        refine v_getI dX1_fewestForAll_91 fl_RX1_28 rfl ?_
        rw [f3.1]
        refine v_if_ne dX1_fewestForAll_94 (fun zc94 => ?_) (fun zc94 => ?_)
        · refine v_aload_n dX1_fewestForAll_99 rfl ?_
          refine v_callV0 dX1_fewestForAll_100 mv_RX1_58 rfl rfl (Nat.le_of_ble_eq_true rfl) ?_
          refine ok_ends hA2 (fun τ3 e1 e2 e3 e4 e5 => ?_)
          have hE0 : 0 < E.length := by
            rcases Nat.eq_zero_or_pos E.length with h | h
            · exact absurd (show nI E.length = 0 by rw [h]; rfl) zc94
            · exact h
          have hnx := ih (i + 1) E c a τ3 (some (.int (nI tg[i]))) (by omega) ⟨fun p b hp => by rw [e3 p b (by omega)]; exact hF2.1 p b hp, fun p hp => by rw [e4 p hp]; exact hF2.2.1 p hp, fun p hp => by rw [e5]; exact hF2.2.2 p hp⟩ e1 ⟨by rw [e2]; exact f3.1, fun j e hj => by rw [e3 _ _ (by omega), e3 _ _ (by omega)]; exact f3.2 j e hj⟩ (hS2.kp (fun p b q1 q2 => e3 _ _ (by omega)) (by rw [e5])) f5 hE0 hEl (fun x hx => f6.2 x hx) (fun x hx => by have := (f7 x hx).2; omega) (fun v hv2 hv3 x hx => by
            rw [Nat.add_sub_cancel, hgi] at hv3
            rw [← Option.some.inj hv3]
            exact (f7 x hx).1) hL2
          show V _ _ _ _ _ _ _
          refine v_iinc dX1_fewestForAll_103 rfl (Nat.le_of_ble_eq_true rfl) rfl ?_
          refine v_goto dX1_fewestForAll_106 ?_
          rw [nI_1]
          exact hnx
        · refine v_iconst dX1_fewestForAll_97 ?_
          refine v_ireturn dX1_fewestForAll_98 rfl (rfl) ?_
          have hE : E = [] := List.eq_nil_of_length_eq_zero ((nI_eq (b := 0) (by omega) (by omega)).mp zc94)
          rw [hE] at hL2
          exact hQ τ2 _ a c hF2 hA2 hS2 ⟨_, PV_nil.eq hL2.sy, rfl⟩
      have k68 : V mX1_fewestForAll (D + 5) 68 [some (.ref 33), some (.ref r), some (.ref 13), some (.int (nI i)), some (.int (nI tg[i]))] [] τ Q := by
        refine v_aload_n dX1_fewestForAll_68 rfl ?_
        refine v_aload_n dX1_fewestForAll_69 rfl ?_
        refine v_iload dX1_fewestForAll_70 rfl ?_
        refine v_iload_n dX1_fewestForAll_72 rfl ?_
        refine v_aload_n dX1_fewestForAll_73 rfl ?_
        refine v_getI dX1_fewestForAll_74 fl_RX1_44 rfl ?_
        rw [hTc]
        refine v_iconst dX1_fewestForAll_77 ?_
        refine v_isub dX1_fewestForAll_78 ?_
        rw [show (1 : Int32) = nI 1 from rfl, zI_sub (by omega)]
        refine v_icmp_ne dX1_fewestForAll_79 (fun zc79 => ?_) (fun zc79 => ?_)
        · rw [nI_eq (by omega) (by omega)] at zc79
          refine v_iconst dX1_fewestForAll_86 ?_
          first | exact k87 false 0 rfl (fun h => by cases h) | exact k87 true 1 rfl (fun _ => List.drop_of_length_le (by omega))
        · rw [nI_eq (by omega) (by omega)] at zc79
          refine v_iconst dX1_fewestForAll_82 ?_
          refine v_goto dX1_fewestForAll_83 ?_
          first | exact k87 false 0 rfl (fun h => by cases h) | exact k87 true 1 rfl (fun _ => List.drop_of_length_le (by omega))
      rcases Nat.eq_zero_or_pos i with hi0 | hi0
      · refine v_iload_n dX1_fewestForAll_28 rfl ?_
        refine v_aload_n dX1_fewestForAll_29 rfl ?_
        refine v_getI dX1_fewestForAll_30 fl_RX1_44 rfl ?_
        rw [hTc]
        refine v_icmp_ge dX1_fewestForAll_33 (fun zc33 => ?_) (fun zc33 => ?_)
        · exact absurd zc33 (nI_ge (by omega) (by omega))
        · refine v_aload_n dX1_fewestForAll_36 rfl ?_
          refine v_getR (q := 14) dX1_fewestForAll_37 fl_RX1_47 rfl rfl ?_
          refine v_iload_n dX1_fewestForAll_40 rfl ?_
          refine v_callS2 dX1_fewestForAll_41 ms_RX1_50 (Nat.le_of_ble_eq_true rfl) ?_
          refine ok_at rfl (by decide) ?_
          rw [vAt_nI (by omega) (by omega), hti]
          show V _ _ _ _ (_ :: _) _ _
          refine v_istore dX1_fewestForAll_44 (Nat.le_of_ble_eq_true rfl) rfl ?_
          refine v_iload_n dX1_fewestForAll_46 rfl ?_
          refine v_if_le dX1_fewestForAll_47 (fun zc47 => ?_) (fun zc47 => ?_)
          · exact k68
          · exact absurd (show nI i ≤ 0 by rw [hi0]; decide) zc47
      · have hgp : tg[i - 1]? = some tg[i - 1] := List.getElem?_eq_getElem (by omega)
        have htp : τ.1 14 (i - 1) = nI tg[i - 1] := by rw [hF.1 _ _ (by omega)]; exact hT.2 (i - 1) _ hgp
        have hvp := ht _ (List.getElem_mem (show i - 1 < tg.length by omega))
        refine v_iload_n dX1_fewestForAll_28 rfl ?_
        refine v_aload_n dX1_fewestForAll_29 rfl ?_
        refine v_getI dX1_fewestForAll_30 fl_RX1_44 rfl ?_
        rw [hTc]
        refine v_icmp_ge dX1_fewestForAll_33 (fun zc33 => ?_) (fun zc33 => ?_)
        · exact absurd zc33 (nI_ge (by omega) (by omega))
        · refine v_aload_n dX1_fewestForAll_36 rfl ?_
          refine v_getR (q := 14) dX1_fewestForAll_37 fl_RX1_47 rfl rfl ?_
          refine v_iload_n dX1_fewestForAll_40 rfl ?_
          refine v_callS2 dX1_fewestForAll_41 ms_RX1_50 (Nat.le_of_ble_eq_true rfl) ?_
          refine ok_at rfl (by decide) ?_
          rw [vAt_nI (by omega) (by omega), hti]
          show V _ _ _ _ (_ :: _) _ _
          refine v_istore dX1_fewestForAll_44 (Nat.le_of_ble_eq_true rfl) rfl ?_
          refine v_iload_n dX1_fewestForAll_46 rfl ?_
          refine v_if_le dX1_fewestForAll_47 (fun zc47 => ?_) (fun zc47 => ?_)
          · exact absurd zc47 (nI_ge (a := 0) (by omega) (by omega))
          · refine v_iload dX1_fewestForAll_50 rfl ?_
            refine v_aload_n dX1_fewestForAll_52 rfl ?_
            refine v_getR (q := 14) dX1_fewestForAll_53 fl_RX1_47 rfl rfl ?_
            refine v_iload_n dX1_fewestForAll_56 rfl ?_
            refine v_iconst dX1_fewestForAll_57 ?_
            refine v_isub dX1_fewestForAll_58 ?_
            rw [show (1 : Int32) = nI 1 from rfl, zI_sub (by omega)]
            refine v_callS2 dX1_fewestForAll_59 ms_RX1_50 (Nat.le_of_ble_eq_true rfl) ?_
            refine ok_at rfl (by decide) ?_
            rw [vAt_nI (by omega) (by omega), htp]
            show V _ _ _ _ (_ :: _) _ _
            refine v_icmp_ne dX1_fewestForAll_62 (fun zc62 => ?_) (fun zc62 => ?_)
            · rw [nI_eq (by omega) (by omega)] at zc62
              exact k68
            · rw [nI_eq (by omega) (by omega)] at zc62
              refine v_goto dX1_fewestForAll_65 ?_
              refine v_iinc dX1_fewestForAll_103 rfl (Nat.le_of_ble_eq_true rfl) rfl ?_
              refine v_goto dX1_fewestForAll_106 ?_
              rw [nI_1]
              refine ih (i + 1) src a c τ _ (by omega) hF hA hSR hSt hss h0 h602 hsv (fun x hx => by have := hsd x hx; omega) (fun v hv2 hv3 x hx => ?_) (hL.tr (PV_dup (fun x hx => ?_)))
              · rw [Nat.add_sub_cancel, hgi] at hv3
                rw [← Option.some.inj hv3, zc62]
                exact hsh _ hi0 hgp x hx
              · rw [zc62]
                exact hsh _ hi0 hgp x hx
  have hac : (34 ≤ a ∧ a ≤ 36) := by rcases hA.1 with h | h <;> omega
  obtain ⟨τ0, hτ0⟩ : ∃ τ0, τ0 = setI (setI (setI σ a 0 (nI (ps s))) (a + 1) 0 0) 33 3 1 := ⟨_, rfl⟩
  have hk0 : ∀ p b, ¬ ((p = a ∧ b = 0) ∨ (p = a + 1 ∧ b = 0) ∨ (p = 33 ∧ b = 3)) → τ0.1 p b = σ.1 p b := fun p b h => by rw [hτ0, setI_ne (by omega), setI_ne (by omega), setI_ne (by omega)]
  have h2 : τ0.2 = σ.2 := by rw [hτ0]; rfl
  refine ok_enter rfl (Nat.le_of_ble_eq_true rfl) ?_
  refine v_aload_n dX1_fewestForAll_0 rfl ?_
  refine v_getM dX1_fewestForAll_1 fl_RX1_9 rfl ?_
  rw [hA.2.1]
  refine v_iconst dX1_fewestForAll_4 ?_
  refine v_aload_n dX1_fewestForAll_5 rfl ?_
  refine v_getI dX1_fewestForAll_6 fl_RX1_35 rfl ?_
  rw [hp0]
  refine v_callS3 dX1_fewestForAll_9 ms_RX1_40 (Nat.le_of_ble_eq_true rfl) ?_
  refine ok_put hA.la (by decide) ?_
  rw [show (0 : Int32) = nI 0 from rfl, wPut_nI (by omega) (by omega)]
  show V _ _ _ _ _ _ _
  refine v_aload_n dX1_fewestForAll_12 rfl ?_
  refine v_getM dX1_fewestForAll_13 fl_RX1_15 rfl ?_
  rw [show (setI σ a 0 (nI (ps s))).2.2 33 2 = a + 1 from hA.2.2.1]
  refine v_iconst dX1_fewestForAll_16 ?_
  refine v_iconst dX1_fewestForAll_17 ?_
  refine v_callS3 dX1_fewestForAll_18 ms_RX1_40 (Nat.le_of_ble_eq_true rfl) ?_
  refine ok_put hA.lb (by decide) ?_
  rw [show (0 : Int32) = nI 0 from rfl, wPut_nI (by omega) (by omega)]
  show V _ _ _ _ _ _ _
  refine v_aload_n dX1_fewestForAll_21 rfl ?_
  refine v_iconst dX1_fewestForAll_22 ?_
  refine v_putI dX1_fewestForAll_23 fp_RX1_18 rfl ?_
  rw [show setI (setI (setI σ a 0 (nI (ps s))) (a + 1) 0 (nI 0)) 33 3 1 = τ0 from hτ0.symm]
  refine v_iconst dX1_fewestForAll_26 ?_
  refine v_istore_n dX1_fewestForAll_27 (Nat.le_of_ble_eq_true rfl) rfl ?_
  refine loop tg.length 0 [(s, 0, 0, 0)] a c τ0 _ (by omega) ⟨fun p b h => hk0 p b (by omega), fun p hp => by rw [h2], fun p hp => by rw [h2]⟩ (hA.kept (by rw [h2])) ⟨?_, fun j e hj => ?_⟩ (hS.kp (fun p b q1 q2 => hk0 p b (by omega)) (by rw [h2])) (fun i j e e' hij he he' => ?_) (by simp) (by simp) (fun x hx => ?_) (fun x hx => ?_) (fun v hv2 => absurd hv2 (by omega)) (by rw [List.drop_zero]; exact LEQ.rf)
  · rw [hτ0, setI_same]; rfl
  · have hj0 : j = 0 := by
      have := (List.getElem?_eq_some_iff.mp hj).1
      simpa using this
    rw [hj0] at hj ⊢
    have he : (s, 0, 0, 0) = e := by simpa using hj
    rw [← he, hτ0]
    exact ⟨by rw [setI_ne (by omega), setI_ne (by omega), setI_same], by rw [setI_ne (by omega), setI_same]; rfl⟩
  · have i0 := (List.getElem?_eq_some_iff.mp he).1
    have j0 := (List.getElem?_eq_some_iff.mp he').1
    have hi : i = 0 := by simpa using i0
    have hj : j = 0 := by simpa using j0
    rw [hi] at he
    rw [hj] at he'
    rw [he] at he'
    rw [Option.some.inj he']
    exact Nat.le_refl _
  · rw [List.mem_singleton.mp hx]; exact hs
  · rw [List.mem_singleton.mp hx]; exact Nat.zero_le _
theorem ok_clist (hP : CP σ r R s) (hT : RepT σ 13 tg) (hl : tg.length ≤ 6) (ht : ∀ v ∈ tg, v < R.2.2.2.1) (hA : AP σ a c) (hS : StC σ R s) (hQ : ∀ τ w a' c', LiF σ τ → AP τ a' c' → StC τ R s → LiA R s tg w → Q (some (.int w)) τ) : Ok (D + 6) mX11_list [.ref 0] σ Q := by
  obtain ⟨hr, hrk, hR, hv, hp0, hs⟩ := id hP
  refine ok_enter rfl (Nat.le_of_ble_eq_true rfl) ?_
  refine v_aload_n dX11_list_0 rfl ?_
  refine v_getR (q := 33) dX11_list_1 fl_RX11_72 rfl rfl ?_
  refine v_aload_n dX11_list_4 rfl ?_
  refine v_getM dX11_list_5 fl_RX11_19 rfl ?_
  rw [hrk]
  refine v_aload_n dX11_list_8 rfl ?_
  refine v_getR (q := 13) dX11_list_9 fl_RX11_29 rfl rfl ?_
  refine v_callV2 dX11_list_12 mv_RX11_232 rfl rfl (Nat.le_of_ble_eq_true rfl) ?_
  refine ok_forAll hr hR hv hs hp0 hT hl ht hA hS (fun τ w a' c' f1 f2 f3 f4 => ?_)
  show V _ _ _ _ (_ :: _) _ _
  refine v_ireturn dX11_list_15 rfl (rfl) ?_
  exact hQ τ w a' c' f1 f2 f3 f4
end CT
