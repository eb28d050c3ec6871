/-! ===== the class's text: dial and keys ===== -/
def FrR (r : Nat) (σ τ : Wd) : Prop := Fr (fun a b => (a = 1 ∧ 2 ≤ b ∧ b ≤ 7) ∨ (r ≤ a ∧ a ≤ r + 4)) σ τ
section CX2
variable {D : Nat} {σ τ : Wd} {Q : Option Value → Wd → Prop} {T : List Nat} {i p n lo hi' k r j : Nat} {R : Rk} {kd : Int}
theorem RepX.kp (h : RepX σ T) (h1 : τ.1 1 1 = σ.1 1 1) (h2 : ∀ b, τ.1 2 b = σ.1 2 b) : RepX τ T := ⟨by rw [h1]; exact h.1, fun j c hj => by rw [h2]; exact h.2 j c hj⟩
theorem FrR.x (hr : vIsR r) (h : FrR r σ τ) (hX : RepX σ T) : RepX τ T := hX.kp (h.1 _ _ (by rcases hr with rfl | rfl <;> omega)) (fun b => h.1 _ _ (by rcases hr with rfl | rfl <;> omega))
theorem FrR.of {P : Nat → Nat → Prop} (h : Fr P σ τ) (hP : ∀ a b, P a b → a = 1 ∧ 2 ≤ b ∧ b ≤ 7) : FrR r σ τ := h.mn (fun a b hh => Or.inl (hP a b hh))
theorem FrR.tr {a b c : Wd} (h1 : FrR r a b) (h2 : FrR r b c) : FrR r a c := Fr.tr h1 h2
theorem rep_dial2 {b f m : Nat} (hr : vIsR r) (h : RepR σ r (-1, 0, 0, 0, [])) : RepR (setI (setI (setI (setI σ r 0 (iz kd)) r 1 (nI b)) r 2 (nI f)) r 3 (nI m)) r (kd, b, f, m, []) := by
  refine ⟨by rw [setI_ne (by omega), setI_ne (by omega), setI_ne (by omega), setI_same], by rw [setI_ne (by omega), setI_ne (by omega), setI_same], by rw [setI_ne (by omega), setI_same], setI_same, by rw [setI_ne (by omega), setI_ne (by omega), setI_ne (by omega), setI_ne (by omega)]; exact h.2.2.2.2.1, fun i k hi => by simp at hi⟩
theorem v_dial130 {τ0 : Wd} {b f j1 j2 : Nat} {x6 : Option Value} (hr : vIsR r) (hX : RepX σ T) (hT : vT T) (hpow : b ^ f ≤ 1000000) (hj2 : j2 ≤ T.length) (hR : RepR σ r (-1, 0, 0, 0, [])) (h4 : σ.1 1 4 = nI j2) (h6 : σ.1 1 6 = nI (skp T j1)) (e2 : σ.1 1 2 = τ0.1 1 2) (e3 : σ.1 1 3 = τ0.1 1 3) (hF : FrR r τ0 σ) (hPd : Pdial T i = if 100 < b ^ f then .inl (2, skp T j1) else bnd (Pe T j2) (fun j => .inr ((kd, b, f, b ^ f, []), j)))
    (hQ0 : ∀ τ f, Pdial T i = .inl f → FrR r τ0 τ → τ.1 1 2 = nI f.1 → τ.1 1 3 = nI f.2 → Q (some (.int 0)) τ)
    (hQ1 : ∀ τ y, Pdial T i = .inr y → FrR r τ0 τ → RepR τ r y.1 → τ.1 1 4 = nI y.2 → τ.1 1 2 = τ0.1 1 2 → τ.1 1 3 = τ0.1 1 3 → Q (some (.int 1)) τ) :
    V mX9_readDial (D + 3) 130 [some (.ref 1), some (.ref r), some (.int (iz kd)), some (.int (nI b)), some (.int (nI f)), some (.int (nI (b ^ f))), x6] [] σ Q := by
  have hr12 : r + 4 < 13 ∧ 3 ≤ r := by rcases hr with rfl | rfl <;> omega
  have hXd : RepX (setI (setI (setI (setI σ r 0 (iz kd)) r 1 (nI b)) r 2 (nI f)) r 3 (nI (b ^ f))) T := hX.kp (by rw [setI_ne (by omega), setI_ne (by omega), setI_ne (by omega), setI_ne (by omega)]) (fun b => by rw [setI_ne (by omega), setI_ne (by omega), setI_ne (by omega), setI_ne (by omega)])
  have h4d : (setI (setI (setI (setI σ r 0 (iz kd)) r 1 (nI b)) r 2 (nI f)) r 3 (nI (b ^ f))).1 1 4 = nI j2 := by rw [setI_ne (by omega), setI_ne (by omega), setI_ne (by omega), setI_ne (by omega)]; exact h4
  have hFd : FrR r τ0 (setI (setI (setI (setI σ r 0 (iz kd)) r 1 (nI b)) r 2 (nI f)) r 3 (nI (b ^ f))) := Fr.set (Fr.set (Fr.set (Fr.set hF (Or.inr (by omega))) (Or.inr (by omega))) (Or.inr (by omega))) (Or.inr (by omega))
  have hRd := rep_dial2 (kd := kd) (b := b) (f := f) (m := b ^ f) hr hR
  refine v_iload dX9_readDial_130 rfl ?_
  refine v_bipush dX9_readDial_132 ?_
  refine v_icmp_le dX9_readDial_134 (fun zc134 => ?_) (fun zc134 => ?_)
  · rw [show (100 : Int32) = nI 100 from rfl, nI_leI (by omega) (by omega)] at zc134
    refine v_aload_n dX9_readDial_147 rfl ?_
    refine v_iload_n dX9_readDial_148 rfl ?_
    refine v_iload_n dX9_readDial_149 rfl ?_
    refine v_iload dX9_readDial_150 rfl ?_
    refine v_iload dX9_readDial_152 rfl ?_
    refine v_callV4 dX9_readDial_154 mv_RX9_72 hr.lay rfl (Nat.le_of_ble_eq_true rfl) ?_
    refine ok_setDial hr ?_
    show V _ _ _ _ _ _ _
    refine v_aload_n dX9_readDial_157 rfl ?_
    refine v_callV0 dX9_readDial_158 mv_RX9_76 rfl rfl (Nat.le_of_ble_eq_true rfl) ?_
    refine ok_takeEnd hXd hT h4d hj2 (fun τ2 x2 e => ?_)
    show V _ _ _ _ (_ :: _) _ _
    refine v_ireturn dX9_readDial_161 rfl (by rcases e with h | h <;> rw [h.1] <;> rfl) ?_
    rcases e with ⟨hx, f', q1, q2, q3, q4⟩ | ⟨hx, j', q1, q2, q3⟩
    · rw [hx]
      exact hQ0 _ f' (by rw [hPd, if_neg (by omega), q1]; rfl) (hFd.tr (FrR.of q2 (fun a b h => ⟨h.1, by omega, by omega⟩))) q3 q4
    · rw [hx]
      refine hQ1 _ ((kd, b, f, b ^ f, []), j') (by rw [hPd, if_neg (by omega), q1]; rfl) (hFd.tr (FrR.of q2 (fun a b h => ⟨h.1, by omega, by omega⟩))) (hRd.kept (fun a c h1 h2 => q2.1 _ _ (by omega))) q3 ?_ ?_
      · rw [q2.1 _ _ (by omega), setI_ne (by omega), setI_ne (by omega), setI_ne (by omega), setI_ne (by omega)]; exact e2
      · rw [q2.1 _ _ (by omega), setI_ne (by omega), setI_ne (by omega), setI_ne (by omega), setI_ne (by omega)]; exact e3
  · rw [show (100 : Int32) = nI 100 from rfl, nI_leI (by omega) (by omega)] at zc134
    refine v_aload_n dX9_readDial_137 rfl ?_
    refine v_iconst dX9_readDial_138 ?_
    refine v_aload_n dX9_readDial_139 rfl ?_
    refine v_getI dX9_readDial_140 fl_RX9_31 rfl ?_
    rw [h6]
    refine v_callV2 dX9_readDial_143 mv_RX9_61 rfl rfl (Nat.le_of_ble_eq_true rfl) ?_
    refine ok_refuse ?_
    show V _ _ _ _ (_ :: _) _ _
    refine v_ireturn dX9_readDial_146 rfl (rfl) ?_
    exact hQ0 _ (2, skp T j1) (by rw [hPd, if_pos (by omega)]) (Fr.set (Fr.set hF (Or.inl (by omega))) (Or.inl (by omega))) (by rw [setI_ne (by omega), setI_same]; rfl) setI_same
theorem v_dial54 {x3 x4 x5 x6 : Option Value} (hr : vIsR r) (hX : RepX σ T) (hT : vT T) (h5 : σ.1 1 5 = nI p) (h4 : σ.1 1 4 = nI (p + (wrd T p).length)) (hp : p ≤ T.length) (hR : RepR σ r (-1, 0, 0, 0, [])) (hpi : skp T i = p) (hkd : dkW (wrd T p) = kd)
    (hQ0 : ∀ τ f, Pdial T i = .inl f → FrR r σ τ → τ.1 1 2 = nI f.1 → τ.1 1 3 = nI f.2 → Q (some (.int 0)) τ)
    (hQ1 : ∀ τ y, Pdial T i = .inr y → FrR r σ τ → RepR τ r y.1 → τ.1 1 4 = nI y.2 → τ.1 1 2 = σ.1 1 2 → τ.1 1 3 = σ.1 1 3 → Q (some (.int 1)) τ) :
    V mX9_readDial (D + 3) 54 [some (.ref 1), some (.ref r), none, none, none, none, none] [.int (iz kd)] σ Q := by
  have hw := wrd_len hp
  have hkr := dkW_rng (wrd T p)
  have hl := hT.1
  have hr12 : r + 4 < 13 ∧ 3 ≤ r := by rcases hr with rfl | rfl <;> omega
  have hmul : ∀ (b f : Nat) (τ : Wd), b ≤ 10 → f ≤ 6 → V mX9_readDial (D + 3) 130 [some (.ref 1), some (.ref r), some (.int (iz kd)), some (.int (nI b)), some (.int (nI f)), some (.int (nI (b ^ f))), some (.int (nI f))] [] τ Q → ∀ j c, c + j = f → V mX9_readDial (D + 3) 111 [some (.ref 1), some (.ref r), some (.int (iz kd)), some (.int (nI b)), some (.int (nI f)), some (.int (nI (b ^ c))), some (.int (nI c))] [] τ Q := by
    intro b f τ hb hf h130 j
    induction j with
    | zero =>
      intro c hc
      obtain rfl : c = f := by omega
      refine v_iload dX9_readDial_111 rfl ?_
      refine v_iload dX9_readDial_113 rfl ?_
      refine v_icmp_ge dX9_readDial_115 (fun zc115 => ?_) (fun zc115 => ?_)
      · exact h130
      · exact absurd (nI_le (by omega) (by omega)) zc115
    | succ j ih =>
      intro c hc
      have hnx := ih (c + 1) (by omega)
      refine v_iload dX9_readDial_111 rfl ?_
      refine v_iload dX9_readDial_113 rfl ?_
      refine v_icmp_ge dX9_readDial_115 (fun zc115 => ?_) (fun zc115 => ?_)
      · exact absurd zc115 (nI_ge (by omega) (by omega))
      · refine v_iload dX9_readDial_118 rfl ?_
        refine v_iload_n dX9_readDial_120 rfl ?_
        refine v_imul dX9_readDial_121 ?_
        rw [pk_mul, ← Nat.pow_succ]
        refine v_istore dX9_readDial_122 (Nat.le_of_ble_eq_true rfl) rfl ?_
        refine v_iinc dX9_readDial_124 rfl (Nat.le_of_ble_eq_true rfl) rfl ?_
        refine v_goto dX9_readDial_127 ?_
        rw [nI_1]
        exact hnx
  refine v_istore_n dX9_readDial_54 (Nat.le_of_ble_eq_true rfl) rfl ?_
  refine v_iload_n dX9_readDial_55 rfl ?_
  refine v_iconst dX9_readDial_56 ?_
  refine v_icmp_ne dX9_readDial_57 (fun zc57 => ?_) (fun zc57 => ?_)
  · rw [show (-1 : Int32) = iz (-1) from rfl, iz_eq (by omega) (by omega) (by omega) (by omega)] at zc57
    refine v_aload_n dX9_readDial_70 rfl ?_
    refine v_iconst dX9_readDial_71 ?_
    refine v_bipush dX9_readDial_72 ?_
    refine v_callV2 dX9_readDial_74 mv_RX9_69 rfl rfl (Nat.le_of_ble_eq_true rfl) ?_
    refine ok_takeNumber (lo := 2) (k := 10) hX hT h4 hw (by omega) (by omega) (fun τ1 x1 n1 => ?_)
    have hPd : Pdial T i = bnd (Pn T 2 10 (p + (wrd T p).length)) (fun b => bnd (Pn T 1 6 b.2) (fun f => if 100 < b.1 ^ f.1 then .inl (2, skp T b.2) else bnd (Pe T f.2) (fun j => .inr ((kd, b.1, f.1, b.1 ^ f.1, []), j)))) := by unfold Pdial; rw [hpi, hkd, if_neg zc57]
    show V _ _ _ _ (_ :: _) _ _
    refine v_if_ne dX9_readDial_77 (fun zc77 => ?_) (fun zc77 => ?_)
    · obtain ⟨-, b, j1, q1, q2, q3, q4, q5⟩ := n1.resolve_left (fun h => zc77 h.1)
      have hb := Pn_r q1
      have hj1 := Pn_j hw q1
      have hF1 : FrR r σ τ1 := FrR.of q2 (fun a b h => ⟨h.1, by omega, by omega⟩)
      have hX1 : RepX τ1 T := hF1.x hr hX
      refine v_aload_n dX9_readDial_82 rfl ?_
      refine v_getI dX9_readDial_83 fl_RX9_34 rfl ?_
      rw [q5]
      refine v_istore_n dX9_readDial_86 (Nat.le_of_ble_eq_true rfl) rfl ?_
      refine v_aload_n dX9_readDial_87 rfl ?_
      refine v_iconst dX9_readDial_88 ?_
      refine v_bipush dX9_readDial_89 ?_
      refine v_callV2 dX9_readDial_91 mv_RX9_69 rfl rfl (Nat.le_of_ble_eq_true rfl) ?_
      refine ok_takeNumber (lo := 1) (k := 6) hX1 hT q3 hj1 (by omega) (by omega) (fun τ2 x2 n2 => ?_)
      show V _ _ _ _ (_ :: _) _ _
      refine v_if_ne dX9_readDial_94 (fun zc94 => ?_) (fun zc94 => ?_)
      · obtain ⟨-, f, j2, p1, p2, p3, p4, p5⟩ := n2.resolve_left (fun h => zc94 h.1)
        have hf := Pn_r p1
        have hj2 := Pn_j hj1 p1
        have hF2 : FrR r σ τ2 := hF1.tr (FrR.of p2 (fun a b h => ⟨h.1, by omega, by omega⟩))
        have hX2 : RepX τ2 T := hF2.x hr hX
        have hpow : b ^ f ≤ 1000000 := Nat.le_trans (Nat.pow_le_pow_left hb.2.1 f) (Nat.le_trans (Nat.pow_le_pow_right (by omega) hf.2.1) (by decide))
        have hPd2 : Pdial T i = if 100 < b ^ f then .inl (2, skp T j1) else bnd (Pe T j2) (fun j => .inr ((kd, b, f, b ^ f, []), j)) := by
          rw [hPd, q1]
          show bnd (Pn T 1 6 j1) _ = _
          rw [p1]
          rfl
        refine v_aload_n dX9_readDial_99 rfl ?_
        refine v_getI dX9_readDial_100 fl_RX9_34 rfl ?_
        rw [p5]
        refine v_istore dX9_readDial_103 (Nat.le_of_ble_eq_true rfl) rfl ?_
        refine v_iconst dX9_readDial_105 ?_
        refine v_istore dX9_readDial_106 (Nat.le_of_ble_eq_true rfl) rfl ?_
        refine v_iconst dX9_readDial_108 ?_
        refine v_istore dX9_readDial_109 (Nat.le_of_ble_eq_true rfl) rfl ?_
        refine hmul b f τ2 hb.2.1 hf.2.1 ?_ f 0 (by omega)
        exact v_dial130 hr hX2 hT hpow hj2 (hR.kept (fun a c h1 h2 => by rw [p2.1 _ _ (by omega), q2.1 _ _ (by omega)])) p3 p4 (by rw [p2.1 _ _ (by omega), q2.1 _ _ (by omega)]) (by rw [p2.1 _ _ (by omega), q2.1 _ _ (by omega)]) hF2 hPd2 hQ0 hQ1
      · obtain ⟨-, f, p1, p2, p3, p4⟩ := n2.resolve_right (fun h => by rw [h.1] at zc94; exact absurd zc94 (by decide))
        refine v_iconst dX9_readDial_97 ?_
        refine v_ireturn dX9_readDial_98 rfl (rfl) ?_
        exact hQ0 _ f (by rw [hPd, q1]; show bnd (Pn T 1 6 j1) _ = _; rw [p1]; rfl) (hF1.tr (FrR.of p2 (fun a b h => h))) p3 p4
    · obtain ⟨-, f, q1, q2, q3, q4⟩ := n1.resolve_right (fun h => by rw [h.1] at zc77; exact absurd zc77 (by decide))
      refine v_iconst dX9_readDial_80 ?_
      refine v_ireturn dX9_readDial_81 rfl (rfl) ?_
      exact hQ0 _ f (by rw [hPd, q1]; rfl) (FrR.of q2 (fun a b h => h)) q3 q4
  · rw [show (-1 : Int32) = iz (-1) from rfl, iz_eq (by omega) (by omega) (by omega) (by omega)] at zc57
    refine v_aload_n dX9_readDial_60 rfl ?_
    refine v_iconst dX9_readDial_61 ?_
    refine v_aload_n dX9_readDial_62 rfl ?_
    refine v_getI dX9_readDial_63 fl_RX9_28 rfl ?_
    rw [h5]
    refine v_callV2 dX9_readDial_66 mv_RX9_61 rfl rfl (Nat.le_of_ble_eq_true rfl) ?_
    refine ok_refuse ?_
    show V _ _ _ _ (_ :: _) _ _
    refine v_ireturn dX9_readDial_69 rfl (rfl) ?_
    exact hQ0 _ (1, p) (by unfold Pdial; rw [hpi, hkd, if_pos zc57]) (FrR.of ((Fr.rf.set (P := fun a b => a = 1 ∧ 2 ≤ b ∧ b ≤ 7) ⟨rfl, by omega, by omega⟩).set ⟨rfl, by omega, by omega⟩) (fun a b h => h)) (by rw [setI_ne (by omega), setI_same]; rfl) setI_same
def Pd0 (T : List Nat) (i : Nat) : Flt ⊕ (Rk × Nat) := if wrd T (skp T i) = wd 0 then Pdial T (skp T i + 4) else .inl (1, skp T i)
theorem ok_readDial (hr : vIsR r) (hX : RepX σ T) (hT : vT T) (h4 : σ.1 1 4 = nI i) (hi : i ≤ T.length) (hR : RepR σ r (-1, 0, 0, 0, []))
    (hQ : ∀ τ x, ((x = 0 ∧ ∃ f, Pd0 T i = .inl f ∧ FrR r σ τ ∧ τ.1 1 2 = nI f.1 ∧ τ.1 1 3 = nI f.2) ∨ (x = 1 ∧ ∃ y, Pd0 T i = .inr y ∧ FrR r σ τ ∧ RepR τ r y.1 ∧ τ.1 1 4 = nI y.2 ∧ τ.1 1 2 = σ.1 1 2 ∧ τ.1 1 3 = σ.1 1 3)) → Q (some (.int x)) τ) : Ok (D + 5) mX9_readDial [.ref 1, .ref r] σ Q := by
  have hp : skp T i ≤ T.length := spn_le hi
  have hw := wrd_len hp
  have hr12 : r + 4 < 13 ∧ 3 ≤ r := by rcases hr with rfl | rfl <;> omega
  refine ok_enter rfl (Nat.le_of_ble_eq_true rfl) ?_
  refine v_aload_n dX9_readDial_0 rfl ?_
  refine v_callV0 dX9_readDial_1 mv_RX9_52 rfl rfl (Nat.le_of_ble_eq_true rfl) ?_
  refine ok_takeWord hX hT h4 hi (fun τ1 a1 a2 a3 => ?_)
  have hF1 : FrR r σ τ1 := FrR.of a1 (fun a b h => ⟨h.1, by omega, by omega⟩)
  have hX1 : RepX τ1 T := hF1.x hr hX
  show V _ _ _ _ _ _ _
  refine v_aload_n dX9_readDial_4 rfl ?_
  refine v_ldcS (i := 0) dX9_readDial_5 rfl (by decide) rfl ?_
  refine v_callV1 dX9_readDial_7 mv_RX9_57 rfl rfl (Nat.le_of_ble_eq_true rfl) ?_
  refine ok_wordIs (i := 0) (by decide) hX1 hT a2 a3 hp ?_
  show V _ _ _ _ (_ :: _) _ _
  refine v_if_ne dX9_readDial_10 (fun zc10 => ?_) (fun zc10 => ?_)
  · have hz := if10 zc10
    have hP0 : Pd0 T i = Pdial T (skp T i + 4) := by unfold Pd0; rw [if_pos hz]
    rw [hz, show (wd 0).length = 4 from rfl] at a3 hw
    refine v_aload_n dX9_readDial_23 rfl ?_
    refine v_callV0 dX9_readDial_24 mv_RX9_52 rfl rfl (Nat.le_of_ble_eq_true rfl) ?_
    refine ok_takeWord hX1 hT a3 hw (fun τ2 b1 b2 b3 => ?_)
    have hF2 : FrR r σ τ2 := hF1.tr (FrR.of b1 (fun a b h => ⟨h.1, by omega, by omega⟩))
    have hX2 : RepX τ2 T := hF2.x hr hX
    have hp2 : skp T (skp T i + 4) ≤ T.length := spn_le hw
    have h54 := fun kd hkd => v_dial54 (D := D + 2) (Q := Q) (kd := kd) (x3 := none) (x4 := none) (x5 := none) (x6 := none) hr hX2 hT b2 b3 hp2 (hR.kept (fun a c h1 h2 => by rw [b1.1 _ _ (by omega), a1.1 _ _ (by omega)])) rfl hkd (fun τ f g1 g2 g3 g4 => hQ τ 0 (Or.inl ⟨rfl, f, by rw [hP0]; exact g1, hF2.tr g2, g3, g4⟩)) (fun τ y g1 g2 g3 g4 g5 g6 => hQ τ 1 (Or.inr ⟨rfl, y, by rw [hP0]; exact g1, hF2.tr g2, g3, g4, by rw [g5, b1.1 _ _ (by omega), a1.1 _ _ (by omega)], by rw [g6, b1.1 _ _ (by omega), a1.1 _ _ (by omega)]⟩))
    show V _ _ _ _ _ _ _
    refine v_aload_n dX9_readDial_27 rfl ?_
    refine v_ldcS (i := 1) dX9_readDial_28 rfl (by decide) rfl ?_
    refine v_callV1 dX9_readDial_30 mv_RX9_57 rfl rfl (Nat.le_of_ble_eq_true rfl) ?_
    refine ok_wordIs (i := 1) (by decide) hX2 hT b2 b3 hp2 ?_
    show V _ _ _ _ (_ :: _) _ _
    refine v_if_eq dX9_readDial_33 (fun zc33 => ?_) (fun zc33 => ?_)
    · have hz1 := if01 zc33
      refine v_aload_n dX9_readDial_40 rfl ?_
      refine v_ldcS (i := 2) dX9_readDial_41 rfl (by decide) rfl ?_
      refine v_callV1 dX9_readDial_43 mv_RX9_57 rfl rfl (Nat.le_of_ble_eq_true rfl) ?_
      refine ok_wordIs (i := 2) (by decide) hX2 hT b2 b3 hp2 ?_
      show V _ _ _ _ (_ :: _) _ _
      refine v_if_eq dX9_readDial_46 (fun zc46 => ?_) (fun zc46 => ?_)
      · have hz2 := if01 zc46
        refine v_iconst dX9_readDial_53 ?_
        first | exact h54 0 (by unfold dkW; rw [if_pos hz1]) | exact h54 1 (by unfold dkW; rw [if_neg hz1, if_pos hz2]) | exact h54 (-1) (by unfold dkW; rw [if_neg hz1, if_neg hz2])
      · have hz2 := if10 zc46
        refine v_iconst dX9_readDial_49 ?_
        refine v_goto dX9_readDial_50 ?_
        first | exact h54 0 (by unfold dkW; rw [if_pos hz1]) | exact h54 1 (by unfold dkW; rw [if_neg hz1, if_pos hz2]) | exact h54 (-1) (by unfold dkW; rw [if_neg hz1, if_neg hz2])
    · have hz1 := if10 zc33
      refine v_iconst dX9_readDial_36 ?_
      refine v_goto dX9_readDial_37 ?_
      first | exact h54 0 (by unfold dkW; rw [if_pos hz1]) | exact h54 1 (by unfold dkW; rw [if_neg hz1, if_pos hz2]) | exact h54 (-1) (by unfold dkW; rw [if_neg hz1, if_neg hz2])
  · have hz := if01 zc10
    refine v_aload_n dX9_readDial_13 rfl ?_
    refine v_iconst dX9_readDial_14 ?_
    refine v_aload_n dX9_readDial_15 rfl ?_
    refine v_getI dX9_readDial_16 fl_RX9_28 rfl ?_
    rw [a2]
    refine v_callV2 dX9_readDial_19 mv_RX9_61 rfl rfl (Nat.le_of_ble_eq_true rfl) ?_
    refine ok_refuse ?_
    show V _ _ _ _ (_ :: _) _ _
    refine v_ireturn dX9_readDial_22 rfl (rfl) ?_
    exact hQ _ _ (Or.inl ⟨rfl, (1, skp T i), by unfold Pd0; rw [if_neg hz], Fr.set (Fr.set hF1 (Or.inl (by omega))) (Or.inl (by omega)), by rw [setI_ne (by omega), setI_same]; rfl, setI_same⟩)
end CX2
