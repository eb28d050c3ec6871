/-! ===== the class's text: keys, the whole ===== -/
section CX3
variable {D : Nat} {σ τ : Wd} {Q : Option Value → Wd → Prop} {T w : List Nat} {i p n lo hi' k r j kd : Nat} {R : Rk}
theorem v_key180 {a b : Int} {x3 x4 : Int32} (e3 : x3 = iz a) (e4 : x4 = iz b) (hr : vIsR r) (hX : RepX σ T) (hT : vT T) (h4 : σ.1 1 4 = nI j) (hj : j ≤ T.length) (hR : RepR σ r R) (hn : R.2.2.2.2.length < 8)
    (hQ0 : ∀ τ f, Pcost T j = .inl f → FrR r σ τ → τ.1 1 2 = nI f.1 → τ.1 1 3 = nI f.2 → Q (some (.int 0)) τ)
    (hQ1 : ∀ τ c j', Pcost T j = .inr (c, j') → FrR r σ τ → RepR τ r (addK R (kd, c, a, b)) → τ.1 1 4 = nI j' → τ.1 1 2 = σ.1 1 2 → τ.1 1 3 = σ.1 1 3 → Q (some (.int 1)) τ) :
    V mX9_readKey (D + 3) 180 [some (.ref 1), some (.ref r), some (.int (nI kd)), some (.int x3), some (.int x4)] [] σ Q := by
  subst e3 e4
  have hr12 : r + 4 < 13 ∧ 3 ≤ r := by rcases hr with rfl | rfl <;> omega
  refine v_aload_n dX9_readKey_180 rfl ?_
  refine v_iconst dX9_readKey_181 ?_
  refine v_bipush dX9_readKey_182 ?_
  refine v_callV2 dX9_readKey_184 mv_RX9_69 rfl rfl (Nat.le_of_ble_eq_true rfl) ?_
  refine ok_takeNumber (lo := 1) (k := 99) hX hT h4 hj (by omega) (by omega) (fun τ1 x1 n1 => ?_)
  show V _ _ _ _ (_ :: _) _ _
  refine v_if_eq dX9_readKey_187 (fun zc187 => ?_) (fun zc187 => ?_)
  · obtain ⟨-, f, q1, q2, q3, q4⟩ := n1.resolve_right (fun h => by rw [h.1] at zc187; exact absurd zc187 (by decide))
    have hf : Q (some (.int 0)) τ1 := hQ0 _ f (by unfold Pcost; rw [q1]; rfl) (FrR.of q2 (fun a b h => h)) q3 q4
    refine v_iconst dX9_readKey_197 ?_
    refine v_ireturn dX9_readKey_198 rfl (rfl) ?_
    exact hf
  · obtain ⟨-, c, j1, q1, q2, q3, q4, q5⟩ := n1.resolve_left (fun h => zc187 h.1)
    have hj1 := Pn_j hj q1
    have hF1 : FrR r σ τ1 := FrR.of q2 (fun a b h => ⟨h.1, by omega, by omega⟩)
    have hX1 : RepX τ1 T := hF1.x hr hX
    refine v_aload_n dX9_readKey_190 rfl ?_
    refine v_callV0 dX9_readKey_191 mv_RX9_76 rfl rfl (Nat.le_of_ble_eq_true rfl) ?_
    refine ok_takeEnd hX1 hT q3 hj1 (fun τ2 x2 n2 => ?_)
    show V _ _ _ _ (_ :: _) _ _
    refine v_if_ne dX9_readKey_194 (fun zc194 => ?_) (fun zc194 => ?_)
    · obtain ⟨-, j2, p1, p2, p3⟩ := n2.resolve_left (fun h => zc194 h.1)
      have hF2 : FrR r σ τ2 := hF1.tr (FrR.of p2 (fun a b h => ⟨h.1, by omega, by omega⟩))
      have hR2 : RepR τ2 r R := hR.kept (fun a c h1 h2 => by rw [p2.1 _ _ (by omega), q2.1 _ _ (by omega)])
      have h72 : τ2.1 1 7 = nI c := by rw [p2.1 _ _ (by omega)]; exact q5
      refine v_aload_n dX9_readKey_199 rfl ?_
      refine v_iload_n dX9_readKey_200 rfl ?_
      refine v_aload_n dX9_readKey_201 rfl ?_
      refine v_getI dX9_readKey_202 fl_RX9_34 rfl ?_
      rw [h72]
      refine v_iload_n dX9_readKey_205 rfl ?_
      refine v_iload dX9_readKey_206 rfl ?_
      refine v_callV4 dX9_readKey_208 mv_RX9_93 hr.lay rfl (Nat.le_of_ble_eq_true rfl) ?_
      refine ok_addKey hr hR2.2.2.2.2.1 (by omega) ?_
      show V _ _ _ _ _ _ _
      refine v_iconst dX9_readKey_211 ?_
      refine v_ireturn dX9_readKey_212 rfl (rfl) ?_
      refine hQ1 _ c j2 (by unfold Pcost; rw [q1]; show bnd (Pe T j1) _ = _; rw [p1]; rfl) (Fr.set (Fr.set (Fr.set (Fr.set (Fr.set hF2 (Or.inr (by omega))) (Or.inr (by omega))) (Or.inr (by omega))) (Or.inr (by omega))) (Or.inr (by omega))) (rep_addKey (k := (kd, c, a, b)) (kd := R.1) (b := R.2.1) (f := R.2.2.1) (m := R.2.2.2.1) (ks := R.2.2.2.2) rfl hR2) ?_ ?_ ?_
      · rw [setI_ne (by omega), setI_ne (by omega), setI_ne (by omega), setI_ne (by omega), setI_ne (by omega)]; exact p3
      · rw [setI_ne (by omega), setI_ne (by omega), setI_ne (by omega), setI_ne (by omega), setI_ne (by omega), p2.1 _ _ (by omega), q2.1 _ _ (by omega)]
      · rw [setI_ne (by omega), setI_ne (by omega), setI_ne (by omega), setI_ne (by omega), setI_ne (by omega), p2.1 _ _ (by omega), q2.1 _ _ (by omega)]
    · obtain ⟨-, f, p1, p2, p3, p4⟩ := n2.resolve_right (fun h => by rw [h.1] at zc194; exact absurd zc194 (by decide))
      have hf : Q (some (.int 0)) τ2 := hQ0 _ f (by unfold Pcost; rw [q1]; show bnd (Pe T j1) _ = _; rw [p1]; rfl) (hF1.tr (FrR.of p2 (fun a b h => ⟨h.1, by omega, by omega⟩))) p3 p4
      refine v_iconst dX9_readKey_197 ?_
      refine v_ireturn dX9_readKey_198 rfl (rfl) ?_
      exact hf
theorem bnd_in {α β : Type} {x : Flt ⊕ α} {g : α → Flt ⊕ β} {a : α} (h : x = .inr a) : bnd x g = g a := by rw [h]; rfl
theorem bnd_il {α β : Type} {x : Flt ⊕ α} {g : α → Flt ⊕ β} {f : Flt} (h : x = .inl f) : bnd x g = .inl f := by rw [h]; rfl
theorem v_key57 (hk7 : kd ≤ 7) (hkd : kdW w = (kd : Int)) (hr : vIsR r) (hX : RepX σ T) (hT : vT T) (h4 : σ.1 1 4 = nI j) (hj : j ≤ T.length) (hR : RepR σ r R) (hn : R.2.2.2.2.length < 8) (hb1 : 1 ≤ R.2.1) (hb2 : R.2.1 ≤ 10) (hm1 : 1 ≤ R.2.2.2.1) (hm2 : R.2.2.2.1 ≤ 100)
    (hQ0 : ∀ τ f, Pkr T R.2.1 R.2.2.2.1 w j = .inl f → FrR r σ τ → τ.1 1 2 = nI f.1 → τ.1 1 3 = nI f.2 → Q (some (.int 0)) τ)
    (hQ1 : ∀ τ k j', Pkr T R.2.1 R.2.2.2.1 w j = .inr (k, j') → FrR r σ τ → RepR τ r (addK R k) → τ.1 1 4 = nI j' → τ.1 1 2 = σ.1 1 2 → τ.1 1 3 = σ.1 1 3 → Q (some (.int 1)) τ) :
    V mX9_readKey (D + 6) 57 [some (.ref 1), some (.ref r), some (.int (nI kd)), none, none] [] σ Q := by
  have hr12 : r + 4 < 13 ∧ 3 ≤ r := by rcases hr with rfl | rfl <;> omega
  have hl := hT.1
  -- the rest, once its numbers are there
  have tail : ∀ (τ1 : Wd) (j1 : Nat) (a b : Int) (x3 x4 : Int32), x3 = iz a → x4 = iz b → FrR r σ τ1 → RepX τ1 T → τ1.1 1 4 = nI j1 → j1 ≤ T.length → RepR τ1 r R → τ1.1 1 2 = σ.1 1 2 → τ1.1 1 3 = σ.1 1 3 → Pkr T R.2.1 R.2.2.2.1 w j = bnd (Pcost T j1) (fun c => .inr ((kd, c.1, a, b), c.2)) → V mX9_readKey (D + 6) 180 [some (.ref 1), some (.ref r), some (.int (nI kd)), some (.int x3), some (.int x4)] [] τ1 Q := by
    intro τ1 j1 a b x3 x4 e3 e4 hF hX1 h41 hj1 hR1 h21 h31 hPk
    exact v_key180 (D := D + 3) e3 e4 hr hX1 hT h41 hj1 hR1 hn (fun τ f g1 g2 g3 g4 => hQ0 τ f (by rw [hPk]; exact bnd_il g1) (hF.tr g2) g3 g4) (fun τ c j' g1 g2 g3 g4 g5 g6 => hQ1 τ _ j' (by rw [hPk]; exact bnd_in g1) (hF.tr g2) g3 g4 (by rw [g5]; exact h21) (by rw [g6]; exact h31))
  have hR1 := hR.2.1
  have hR3 := hR.2.2.2.1
  rcases (show kd = 0 ∨ kd = 7 ∨ kd = 6 ∨ (1 ≤ kd ∧ kd ≤ 5) by omega) with rfl | rfl | rfl | hk
  · have hPk : Pkr T R.2.1 R.2.2.2.1 w j = bnd (Pn T 0 (R.2.1 - 1) j) (fun d => bnd (Pcost T d.2) (fun c => .inr ((0, c.1, (d.1 : Int), -1), c.2))) := by unfold Pkr; rw [hkd, if_neg (by omega), if_pos (by omega)]
    refine v_iconst dX9_readKey_57 ?_
    refine v_istore_n dX9_readKey_58 (Nat.le_of_ble_eq_true rfl) rfl ?_
    refine v_iconst dX9_readKey_59 ?_
    refine v_istore dX9_readKey_60 (Nat.le_of_ble_eq_true rfl) rfl ?_
    refine v_iload_n dX9_readKey_62 rfl ?_
    refine v_if_eq dX9_readKey_63 (fun zc63 => ?_) (fun zc63 => ?_)
    · refine v_aload_n dX9_readKey_72 rfl ?_
      refine v_iconst dX9_readKey_73 ?_
      refine v_aload_n dX9_readKey_74 rfl ?_
      refine v_getI dX9_readKey_75 fl_RX9_87 hr.lay ?_
      rw [hR1]
      refine v_iconst dX9_readKey_78 ?_
      refine v_isub dX9_readKey_79 ?_
      rw [show (1 : Int32) = nI 1 from rfl, zI_sub hb1]
      refine v_callV2 dX9_readKey_80 mv_RX9_69 rfl rfl (Nat.le_of_ble_eq_true rfl) ?_
      refine ok_takeNumber (lo := 0) (k := R.2.1 - 1) hX hT h4 hj (by omega) (by omega) (fun τ1 x1 n1 => ?_)
      show V _ _ _ _ (_ :: _) _ _
      refine v_if_ne dX9_readKey_83 (fun zc83 => ?_) (fun zc83 => ?_)
      · obtain ⟨-, d, j1, q1, q2, q3, q4, q5⟩ := n1.resolve_left (fun h => zc83 h.1)
        have hF1 : FrR r σ τ1 := FrR.of q2 (fun a b h => ⟨h.1, by omega, by omega⟩)
        refine v_aload_n dX9_readKey_88 rfl ?_
        refine v_getI dX9_readKey_89 fl_RX9_34 rfl ?_
        rw [q5]
        refine v_istore_n dX9_readKey_92 (Nat.le_of_ble_eq_true rfl) rfl ?_
        refine v_iload_n dX9_readKey_93 rfl ?_
        refine v_bipush dX9_readKey_94 ?_
        refine v_icmp_ne dX9_readKey_96 (fun zc96 => ?_) (fun zc96 => ?_)
        · refine v_iload_n dX9_readKey_121 rfl ?_
          refine v_bipush dX9_readKey_122 ?_
          refine v_icmp_ne dX9_readKey_124 (fun zc124 => ?_) (fun zc124 => ?_)
          · exact tail τ1 j1 d (-1) _ _ (iz_nI d) rfl hF1 (hF1.x hr hX) q3 (Pn_j hj q1) (hR.kept (fun a c h1 h2 => q2.1 _ _ (by omega))) (q2.1 _ _ (by omega)) (q2.1 _ _ (by omega)) (by rw [hPk]; exact bnd_in q1)
          · exact absurd zc124 (by decide)
        · exact absurd zc96 (by decide)
      · obtain ⟨-, f, q1, q2, q3, q4⟩ := n1.resolve_right (fun h => by rw [h.1] at zc83; exact absurd zc83 (by decide))
        refine v_iconst dX9_readKey_86 ?_
        refine v_ireturn dX9_readKey_87 rfl (rfl) ?_
        exact hQ0 _ f (by rw [hPk]; exact bnd_il q1) (FrR.of q2 (fun a b h => h)) q3 q4
    · exact absurd (show nI 0 = 0 by decide) zc63
  · have hPk : Pkr T R.2.1 R.2.2.2.1 w j = bnd (Pn T 0 (R.2.1 - 1) j) (fun d => bnd (Pn T 0 (R.2.1 - 1) d.2) (fun e => bnd (Pcost T e.2) (fun c => .inr ((7, c.1, (d.1 : Int), (e.1 : Int)), c.2)))) := by unfold Pkr; rw [hkd, if_neg (by omega), if_neg (by omega), if_pos (by omega)]
    refine v_iconst dX9_readKey_57 ?_
    refine v_istore_n dX9_readKey_58 (Nat.le_of_ble_eq_true rfl) rfl ?_
    refine v_iconst dX9_readKey_59 ?_
    refine v_istore dX9_readKey_60 (Nat.le_of_ble_eq_true rfl) rfl ?_
    refine v_iload_n dX9_readKey_62 rfl ?_
    refine v_if_eq dX9_readKey_63 (fun zc63 => ?_) (fun zc63 => ?_)
    · exact absurd zc63 (by decide)
    · refine v_iload_n dX9_readKey_66 rfl ?_
      refine v_bipush dX9_readKey_67 ?_
      refine v_icmp_ne dX9_readKey_69 (fun zc69 => ?_) (fun zc69 => ?_)
      · exact absurd rfl zc69
      · refine v_aload_n dX9_readKey_72 rfl ?_
        refine v_iconst dX9_readKey_73 ?_
        refine v_aload_n dX9_readKey_74 rfl ?_
        refine v_getI dX9_readKey_75 fl_RX9_87 hr.lay ?_
        rw [hR1]
        refine v_iconst dX9_readKey_78 ?_
        refine v_isub dX9_readKey_79 ?_
        rw [show (1 : Int32) = nI 1 from rfl, zI_sub hb1]
        refine v_callV2 dX9_readKey_80 mv_RX9_69 rfl rfl (Nat.le_of_ble_eq_true rfl) ?_
        refine ok_takeNumber (lo := 0) (k := R.2.1 - 1) hX hT h4 hj (by omega) (by omega) (fun τ1 x1 n1 => ?_)
        show V _ _ _ _ (_ :: _) _ _
        refine v_if_ne dX9_readKey_83 (fun zc83 => ?_) (fun zc83 => ?_)
        · obtain ⟨-, d, j1, q1, q2, q3, q4, q5⟩ := n1.resolve_left (fun h => zc83 h.1)
          have hF1 : FrR r σ τ1 := FrR.of q2 (fun a b h => ⟨h.1, by omega, by omega⟩)
          have hX1 := hF1.x hr hX
          have hj1 := Pn_j hj q1
          have hR11 : τ1.1 r 1 = nI R.2.1 := by rw [q2.1 _ _ (by omega)]; exact hR1
          refine v_aload_n dX9_readKey_88 rfl ?_
          refine v_getI dX9_readKey_89 fl_RX9_34 rfl ?_
          rw [q5]
          refine v_istore_n dX9_readKey_92 (Nat.le_of_ble_eq_true rfl) rfl ?_
          refine v_iload_n dX9_readKey_93 rfl ?_
          refine v_bipush dX9_readKey_94 ?_
          refine v_icmp_ne dX9_readKey_96 (fun zc96 => ?_) (fun zc96 => ?_)
          · exact absurd rfl zc96
          · refine v_aload_n dX9_readKey_99 rfl ?_
            refine v_iconst dX9_readKey_100 ?_
            refine v_aload_n dX9_readKey_101 rfl ?_
            refine v_getI dX9_readKey_102 fl_RX9_87 hr.lay ?_
            rw [hR11]
            refine v_iconst dX9_readKey_105 ?_
            refine v_isub dX9_readKey_106 ?_
            rw [show (1 : Int32) = nI 1 from rfl, zI_sub hb1]
            refine v_callV2 dX9_readKey_107 mv_RX9_69 rfl rfl (Nat.le_of_ble_eq_true rfl) ?_
            refine ok_takeNumber (lo := 0) (k := R.2.1 - 1) hX1 hT q3 hj1 (by omega) (by omega) (fun τ2 x2 n2 => ?_)
            show V _ _ _ _ (_ :: _) _ _
            refine v_if_ne dX9_readKey_110 (fun zc110 => ?_) (fun zc110 => ?_)
            · obtain ⟨-, e, j2, p1, p2, p3, p4, p5⟩ := n2.resolve_left (fun h => zc110 h.1)
              have hF2 : FrR r σ τ2 := hF1.tr (FrR.of p2 (fun a b h => ⟨h.1, by omega, by omega⟩))
              refine v_aload_n dX9_readKey_115 rfl ?_
              refine v_getI dX9_readKey_116 fl_RX9_34 rfl ?_
              rw [p5]
              refine v_istore dX9_readKey_119 (Nat.le_of_ble_eq_true rfl) rfl ?_
              refine v_iload_n dX9_readKey_121 rfl ?_
              refine v_bipush dX9_readKey_122 ?_
              refine v_icmp_ne dX9_readKey_124 (fun zc124 => ?_) (fun zc124 => ?_)
              · exact tail τ2 j2 d e _ _ (iz_nI d) (iz_nI e) hF2 (hF2.x hr hX) p3 (Pn_j hj1 p1) (hR.kept (fun a c h1 h2 => by rw [p2.1 _ _ (by omega), q2.1 _ _ (by omega)])) (by rw [p2.1 _ _ (by omega), q2.1 _ _ (by omega)]) (by rw [p2.1 _ _ (by omega), q2.1 _ _ (by omega)]) (by rw [hPk, bnd_in q1]; exact bnd_in p1)
              · exact absurd zc124 (by decide)
            · obtain ⟨-, f, p1, p2, p3, p4⟩ := n2.resolve_right (fun h => by rw [h.1] at zc110; exact absurd zc110 (by decide))
              refine v_iconst dX9_readKey_113 ?_
              refine v_ireturn dX9_readKey_114 rfl (rfl) ?_
              exact hQ0 _ f (by rw [hPk, bnd_in q1]; exact bnd_il p1) (hF1.tr (FrR.of p2 (fun a b h => h))) p3 p4
        · obtain ⟨-, f, q1, q2, q3, q4⟩ := n1.resolve_right (fun h => by rw [h.1] at zc83; exact absurd zc83 (by decide))
          refine v_iconst dX9_readKey_86 ?_
          refine v_ireturn dX9_readKey_87 rfl (rfl) ?_
          exact hQ0 _ f (by rw [hPk]; exact bnd_il q1) (FrR.of q2 (fun a b h => h)) q3 q4
  · have hPk : Pkr T R.2.1 R.2.2.2.1 w j = Pnow T R.2.2.2.1 j := by unfold Pkr; rw [hkd, if_pos (by omega)]
    have hp : skp T j ≤ T.length := spn_le hj
    have hw2 := wrd_len hp
    have hkr := kdW_rng (wrd T (skp T j))
    refine v_iconst dX9_readKey_57 ?_
    refine v_istore_n dX9_readKey_58 (Nat.le_of_ble_eq_true rfl) rfl ?_
    refine v_iconst dX9_readKey_59 ?_
    refine v_istore dX9_readKey_60 (Nat.le_of_ble_eq_true rfl) rfl ?_
    refine v_iload_n dX9_readKey_62 rfl ?_
    refine v_if_eq dX9_readKey_63 (fun zc63 => ?_) (fun zc63 => ?_)
    · exact absurd zc63 (by decide)
    · refine v_iload_n dX9_readKey_66 rfl ?_
      refine v_bipush dX9_readKey_67 ?_
      refine v_icmp_ne dX9_readKey_69 (fun zc69 => ?_) (fun zc69 => ?_)
      · refine v_iload_n dX9_readKey_93 rfl ?_
        refine v_bipush dX9_readKey_94 ?_
        refine v_icmp_ne dX9_readKey_96 (fun zc96 => ?_) (fun zc96 => ?_)
        · refine v_iload_n dX9_readKey_121 rfl ?_
          refine v_bipush dX9_readKey_122 ?_
          refine v_icmp_ne dX9_readKey_124 (fun zc124 => ?_) (fun zc124 => ?_)
          · exact absurd rfl zc124
          · refine v_aload_n dX9_readKey_127 rfl ?_
            refine v_callV0 dX9_readKey_128 mv_RX9_52 rfl rfl (Nat.le_of_ble_eq_true rfl) ?_
            refine ok_takeWord hX hT h4 hj (fun τ1 a1 a2 a3 => ?_)
            have hF1 : FrR r σ τ1 := FrR.of a1 (fun a b h => ⟨h.1, by omega, by omega⟩)
            have hX1 : RepX τ1 T := hF1.x hr hX
            show V _ _ _ _ _ _ _
            refine v_aload_n dX9_readKey_131 rfl ?_
            refine v_callV0 dX9_readKey_132 mv_RX9_80 rfl rfl (Nat.le_of_ble_eq_true rfl) ?_
            refine ok_kindOf hX1 hT a2 a3 hp ?_
            show V _ _ _ _ (_ :: _) _ _
            refine v_istore dX9_readKey_135 (Nat.le_of_ble_eq_true rfl) rfl ?_
            refine v_iload dX9_readKey_137 rfl ?_
            refine v_iconst dX9_readKey_139 ?_
            refine v_icmp_lt dX9_readKey_140 (fun zc140 => ?_) (fun zc140 => ?_)
            · rw [show (1 : Int32) = iz 1 from rfl, iz_lt (by omega) (by omega) (by omega) (by omega)] at zc140
              refine v_aload_n dX9_readKey_149 rfl ?_
              refine v_iconst dX9_readKey_150 ?_
              refine v_aload_n dX9_readKey_151 rfl ?_
              refine v_getI dX9_readKey_152 fl_RX9_28 rfl ?_
              rw [a2]
              refine v_callV2 dX9_readKey_155 mv_RX9_61 rfl rfl (Nat.le_of_ble_eq_true rfl) ?_
              refine ok_refuse ?_
              show V _ _ _ _ (_ :: _) _ _
              refine v_ireturn dX9_readKey_158 rfl (rfl) ?_
              exact hQ0 _ (1, skp T j) (by rw [hPk]; unfold Pnow; rw [if_neg (by omega)]) (Fr.set (Fr.set hF1 (Or.inl (by omega))) (Or.inl (by omega))) (by rw [setI_ne (by omega), setI_same]; rfl) setI_same
            · rw [show (1 : Int32) = iz 1 from rfl, iz_lt (by omega) (by omega) (by omega) (by omega)] at zc140
              refine v_iload dX9_readKey_143 rfl ?_
              refine v_iconst dX9_readKey_145 ?_
              refine v_icmp_le dX9_readKey_146 (fun zc146 => ?_) (fun zc146 => ?_)
              · rw [show (3 : Int32) = iz 3 from rfl, iz_le (by omega) (by omega) (by omega) (by omega)] at zc146
                refine v_aload_n dX9_readKey_159 rfl ?_
                refine v_iconst dX9_readKey_160 ?_
                refine v_aload_n dX9_readKey_161 rfl ?_
                refine v_getI dX9_readKey_162 fl_RX9_90 hr.lay ?_
                rw [a1.1 _ _ (by omega), hR3]
                refine v_iconst dX9_readKey_165 ?_
                refine v_isub dX9_readKey_166 ?_
                rw [show (1 : Int32) = nI 1 from rfl, zI_sub hm1]
                refine v_callV2 dX9_readKey_167 mv_RX9_69 rfl rfl (Nat.le_of_ble_eq_true rfl) ?_
                refine ok_takeNumber (lo := 0) (k := R.2.2.2.1 - 1) hX1 hT a3 hw2 (by omega) (by omega) (fun τ2 x2 n2 => ?_)
                have hPk2 : Pkr T R.2.1 R.2.2.2.1 w j = bnd (Pn T 0 (R.2.2.2.1 - 1) (skp T j + (wrd T (skp T j)).length)) (fun v => bnd (Pcost T v.2) (fun c => .inr ((6, c.1, (v.1 : Int), kdW (wrd T (skp T j))), c.2))) := by rw [hPk]; unfold Pnow; rw [if_pos (by omega)]
                show V _ _ _ _ (_ :: _) _ _
                refine v_if_ne dX9_readKey_170 (fun zc170 => ?_) (fun zc170 => ?_)
                · obtain ⟨-, v, j2, p1, p2, p3, p4, p5⟩ := n2.resolve_left (fun h => zc170 h.1)
                  have hF2 : FrR r σ τ2 := hF1.tr (FrR.of p2 (fun a b h => ⟨h.1, by omega, by omega⟩))
                  refine v_aload_n dX9_readKey_175 rfl ?_
                  refine v_getI dX9_readKey_176 fl_RX9_34 rfl ?_
                  rw [p5]
                  refine v_istore_n dX9_readKey_179 (Nat.le_of_ble_eq_true rfl) rfl ?_
                  exact tail τ2 j2 v (kdW (wrd T (skp T j))) _ _ (iz_nI v) rfl hF2 (hF2.x hr hX) p3 (Pn_j hw2 p1) (hR.kept (fun a c h1 h2 => by rw [p2.1 _ _ (by omega), a1.1 _ _ (by omega)])) (by rw [p2.1 _ _ (by omega), a1.1 _ _ (by omega)]) (by rw [p2.1 _ _ (by omega), a1.1 _ _ (by omega)]) (by rw [hPk2]; exact bnd_in p1)
                · obtain ⟨-, f, p1, p2, p3, p4⟩ := n2.resolve_right (fun h => by rw [h.1] at zc170; exact absurd zc170 (by decide))
                  refine v_iconst dX9_readKey_173 ?_
                  refine v_ireturn dX9_readKey_174 rfl (rfl) ?_
                  exact hQ0 _ f (by rw [hPk2]; exact bnd_il p1) (hF1.tr (FrR.of p2 (fun a b h => h))) p3 p4
              · rw [show (3 : Int32) = iz 3 from rfl, iz_le (by omega) (by omega) (by omega) (by omega)] at zc146
                refine v_aload_n dX9_readKey_149 rfl ?_
                refine v_iconst dX9_readKey_150 ?_
                refine v_aload_n dX9_readKey_151 rfl ?_
                refine v_getI dX9_readKey_152 fl_RX9_28 rfl ?_
                rw [a2]
                refine v_callV2 dX9_readKey_155 mv_RX9_61 rfl rfl (Nat.le_of_ble_eq_true rfl) ?_
                refine ok_refuse ?_
                show V _ _ _ _ (_ :: _) _ _
                refine v_ireturn dX9_readKey_158 rfl (rfl) ?_
                exact hQ0 _ (1, skp T j) (by rw [hPk]; unfold Pnow; rw [if_neg (by omega)]) (Fr.set (Fr.set hF1 (Or.inl (by omega))) (Or.inl (by omega))) (by rw [setI_ne (by omega), setI_same]; rfl) setI_same
        · exact absurd zc96 (by decide)
      · exact absurd zc69 (by decide)
  · have hPk : Pkr T R.2.1 R.2.2.2.1 w j = bnd (Pcost T j) (fun c => .inr ((kd, c.1, -1, -1), c.2)) := by unfold Pkr; rw [hkd, if_neg (by omega), if_neg (by omega), if_neg (by omega)]; rfl
    refine v_iconst dX9_readKey_57 ?_
    refine v_istore_n dX9_readKey_58 (Nat.le_of_ble_eq_true rfl) rfl ?_
    refine v_iconst dX9_readKey_59 ?_
    refine v_istore dX9_readKey_60 (Nat.le_of_ble_eq_true rfl) rfl ?_
    refine v_iload_n dX9_readKey_62 rfl ?_
    refine v_if_eq dX9_readKey_63 (fun zc63 => ?_) (fun zc63 => ?_)
    · exact absurd ((nI_eq (b := 0) (by omega) (by omega)).mp zc63) (by omega)
    · refine v_iload_n dX9_readKey_66 rfl ?_
      refine v_bipush dX9_readKey_67 ?_
      refine v_icmp_ne dX9_readKey_69 (fun zc69 => ?_) (fun zc69 => ?_)
      · refine v_iload_n dX9_readKey_93 rfl ?_
        refine v_bipush dX9_readKey_94 ?_
        refine v_icmp_ne dX9_readKey_96 (fun zc96 => ?_) (fun zc96 => ?_)
        · refine v_iload_n dX9_readKey_121 rfl ?_
          refine v_bipush dX9_readKey_122 ?_
          refine v_icmp_ne dX9_readKey_124 (fun zc124 => ?_) (fun zc124 => ?_)
          · exact tail σ j (-1) (-1) _ _ rfl rfl Fr.rf hX h4 hj hR rfl rfl hPk
          · exact absurd ((nI_eq (b := 6) (by omega) (by omega)).mp zc124) (by omega)
        · exact absurd ((nI_eq (b := 7) (by omega) (by omega)).mp zc96) (by omega)
      · exact absurd ((nI_eq (b := 7) (by omega) (by omega)).mp zc69) (by omega)
theorem ok_readKey (hr : vIsR r) (hX : RepX σ T) (hT : vT T) (h4 : σ.1 1 4 = nI i) (hi : i ≤ T.length) (hR : RepR σ r R) (hv : vD 8 R)
    (hQ : ∀ τ x, ((x = 0 ∧ ∃ f, Pkey T R.2.1 R.2.2.2.1 R.2.2.2.2.length i = .inl f ∧ FrR r σ τ ∧ τ.1 1 2 = nI f.1 ∧ τ.1 1 3 = nI f.2) ∨ (x = 1 ∧ ∃ k j, Pkey T R.2.1 R.2.2.2.1 R.2.2.2.2.length i = .inr (k, j) ∧ FrR r σ τ ∧ RepR τ r (addK R k) ∧ τ.1 1 4 = nI j ∧ τ.1 1 2 = σ.1 1 2 ∧ τ.1 1 3 = σ.1 1 3)) → Q (some (.int x)) τ) : Ok (D + 6) mX9_readKey [.ref 1, .ref r] σ Q := by
  have hp : skp T i ≤ T.length := spn_le hi
  have hw := wrd_len hp
  have hr12 : r + 4 < 13 ∧ 3 ≤ r := by rcases hr with rfl | rfl <;> omega
  have hkr := kdW_rng (wrd T (skp T i))
  have hw0 : wrd T (skp T i) = wd 0 → kdW (wrd T (skp T i)) = -1 := fun h => by rw [h]; decide
  obtain ⟨-, b1, b2, -, -, b3, b4, b5, -⟩ := id hv
  refine ok_enter rfl (Nat.le_of_ble_eq_true rfl) ?_
  refine v_aload_n dX9_readKey_0 rfl ?_
  refine v_callV0 dX9_readKey_1 mv_RX9_52 rfl rfl (Nat.le_of_ble_eq_true rfl) ?_
  refine ok_takeWord hX hT h4 hi (fun τ1 a1 a2 a3 => ?_)
  have hF1 : FrR r σ τ1 := FrR.of a1 (fun a b h => ⟨h.1, by omega, by omega⟩)
  have hX1 : RepX τ1 T := hF1.x hr hX
  have hR1 : RepR τ1 r R := hR.kept (fun a c h1 h2 => a1.1 _ _ (by omega))
  have h3 : Pkey T R.2.1 R.2.2.2.1 R.2.2.2.2.length i = .inl (3, skp T i) → Q (some (.int 0)) (setI (setI τ1 1 2 3) 1 3 (nI (skp T i))) := fun h => hQ _ _ (Or.inl ⟨rfl, (3, skp T i), h, Fr.set (Fr.set hF1 (Or.inl (by omega))) (Or.inl (by omega)), by rw [setI_ne (by omega), setI_same]; rfl, setI_same⟩)
  show V _ _ _ _ _ _ _
  refine v_aload_n dX9_readKey_4 rfl ?_
  refine v_callV0 dX9_readKey_5 mv_RX9_80 rfl rfl (Nat.le_of_ble_eq_true rfl) ?_
  refine ok_kindOf hX1 hT a2 a3 hp ?_
  show V _ _ _ _ (_ :: _) _ _
  refine v_istore_n dX9_readKey_8 (Nat.le_of_ble_eq_true rfl) rfl ?_
  refine v_iload_n dX9_readKey_9 rfl ?_
  refine v_iconst dX9_readKey_10 ?_
  refine v_icmp_ne dX9_readKey_11 (fun zc11 => ?_) (fun zc11 => ?_)
  · rw [show (-1 : Int32) = iz (-1) from rfl, iz_eq (by omega) (by omega) (by omega) (by omega)] at zc11
    refine v_iload_n dX9_readKey_33 rfl ?_
    refine v_iconst dX9_readKey_34 ?_
    refine v_icmp_eq dX9_readKey_35 (fun zc35 => ?_) (fun zc35 => ?_)
    · rw [show (-1 : Int32) = iz (-1) from rfl, iz_eq (by omega) (by omega) (by omega) (by omega)] at zc35
      refine v_aload_n dX9_readKey_47 rfl ?_
      refine v_iconst dX9_readKey_48 ?_
      refine v_aload_n dX9_readKey_49 rfl ?_
      refine v_getI dX9_readKey_50 fl_RX9_28 rfl ?_
      rw [a2]
      refine v_callV2 dX9_readKey_53 mv_RX9_61 rfl rfl (Nat.le_of_ble_eq_true rfl) ?_
      refine ok_refuse ?_
      show V _ _ _ _ (_ :: _) _ _
      refine v_ireturn dX9_readKey_56 rfl (rfl) ?_
      first
      | exact h3 (by unfold Pkey; rw [if_pos hz])
      | exact h3 (by unfold Pkey; rw [if_neg (fun h => absurd (hw0 h) (by omega)), if_neg (by omega), if_pos (by omega)])
      | (exfalso; omega)
    · rw [show (-1 : Int32) = iz (-1) from rfl, iz_eq (by omega) (by omega) (by omega) (by omega)] at zc35
      refine v_aload_n dX9_readKey_38 rfl ?_
      refine v_getI dX9_readKey_39 fl_RX9_84 hr.lay ?_
      rw [hR1.2.2.2.2.1]
      refine v_bipush dX9_readKey_42 ?_
      rw [show (8 : Int32) = nI 8 from rfl]
      refine v_icmp_lt dX9_readKey_44 (fun zc44 => ?_) (fun zc44 => ?_)
      · rw [nI_ltI (by omega) (by omega)] at zc44
        first
        | (exfalso; omega)
        | (rw [iz_toN (show 0 ≤ kdW (wrd T (skp T i)) by omega)]
           have hPk : Pkey T R.2.1 R.2.2.2.1 R.2.2.2.2.length i = Pkr T R.2.1 R.2.2.2.1 (wrd T (skp T i)) (skp T i + (wrd T (skp T i)).length) := by unfold Pkey; rw [if_neg (fun h => absurd (hw0 h) (by omega)), if_neg (by omega), if_neg (by omega)]
           exact v_key57 (D := D) (w := wrd T (skp T i)) (by omega) (by omega) hr hX1 hT a3 hw hR1 (by omega) (by omega) b2 (by omega) b4 (fun τ f g1 g2 g3 g4 => hQ τ 0 (Or.inl ⟨rfl, f, by rw [hPk]; exact g1, hF1.tr g2, g3, g4⟩)) (fun τ k j' g1 g2 g3 g4 g5 g6 => hQ τ 1 (Or.inr ⟨rfl, k, j', by rw [hPk]; exact g1, hF1.tr g2, g3, g4, by rw [g5, a1.1 _ _ (by omega)], by rw [g6, a1.1 _ _ (by omega)]⟩)))
      · rw [nI_ltI (by omega) (by omega)] at zc44
        refine v_aload_n dX9_readKey_47 rfl ?_
        refine v_iconst dX9_readKey_48 ?_
        refine v_aload_n dX9_readKey_49 rfl ?_
        refine v_getI dX9_readKey_50 fl_RX9_28 rfl ?_
        rw [a2]
        refine v_callV2 dX9_readKey_53 mv_RX9_61 rfl rfl (Nat.le_of_ble_eq_true rfl) ?_
        refine ok_refuse ?_
        show V _ _ _ _ (_ :: _) _ _
        refine v_ireturn dX9_readKey_56 rfl (rfl) ?_
        first
        | exact h3 (by unfold Pkey; rw [if_pos hz])
        | exact h3 (by unfold Pkey; rw [if_neg (fun h => absurd (hw0 h) (by omega)), if_neg (by omega), if_pos (by omega)])
        | (exfalso; omega)
  · rw [show (-1 : Int32) = iz (-1) from rfl, iz_eq (by omega) (by omega) (by omega) (by omega)] at zc11
    refine v_aload_n dX9_readKey_14 rfl ?_
    refine v_ldcS (i := 0) dX9_readKey_15 rfl (by decide) rfl ?_
    refine v_callV1 dX9_readKey_17 mv_RX9_57 rfl rfl (Nat.le_of_ble_eq_true rfl) ?_
    refine ok_wordIs (i := 0) (by decide) hX1 hT a2 a3 hp ?_
    show V _ _ _ _ (_ :: _) _ _
    refine v_if_ne dX9_readKey_20 (fun zc20 => ?_) (fun zc20 => ?_)
    · have hz := if10 zc20
      refine v_iload_n dX9_readKey_33 rfl ?_
      refine v_iconst dX9_readKey_34 ?_
      refine v_icmp_eq dX9_readKey_35 (fun zc35 => ?_) (fun zc35 => ?_)
      · rw [show (-1 : Int32) = iz (-1) from rfl, iz_eq (by omega) (by omega) (by omega) (by omega)] at zc35
        refine v_aload_n dX9_readKey_47 rfl ?_
        refine v_iconst dX9_readKey_48 ?_
        refine v_aload_n dX9_readKey_49 rfl ?_
        refine v_getI dX9_readKey_50 fl_RX9_28 rfl ?_
        rw [a2]
        refine v_callV2 dX9_readKey_53 mv_RX9_61 rfl rfl (Nat.le_of_ble_eq_true rfl) ?_
        refine ok_refuse ?_
        show V _ _ _ _ (_ :: _) _ _
        refine v_ireturn dX9_readKey_56 rfl (rfl) ?_
        first
        | exact h3 (by unfold Pkey; rw [if_pos hz])
        | exact h3 (by unfold Pkey; rw [if_neg (fun h => absurd (hw0 h) (by omega)), if_neg (by omega), if_pos (by omega)])
        | (exfalso; omega)
      · rw [show (-1 : Int32) = iz (-1) from rfl, iz_eq (by omega) (by omega) (by omega) (by omega)] at zc35
        refine v_aload_n dX9_readKey_38 rfl ?_
        refine v_getI dX9_readKey_39 fl_RX9_84 hr.lay ?_
        rw [hR1.2.2.2.2.1]
        refine v_bipush dX9_readKey_42 ?_
        rw [show (8 : Int32) = nI 8 from rfl]
        refine v_icmp_lt dX9_readKey_44 (fun zc44 => ?_) (fun zc44 => ?_)
        · rw [nI_ltI (by omega) (by omega)] at zc44
          first
          | (exfalso; omega)
          | (rw [iz_toN (show 0 ≤ kdW (wrd T (skp T i)) by omega)]
             have hPk : Pkey T R.2.1 R.2.2.2.1 R.2.2.2.2.length i = Pkr T R.2.1 R.2.2.2.1 (wrd T (skp T i)) (skp T i + (wrd T (skp T i)).length) := by unfold Pkey; rw [if_neg (fun h => absurd (hw0 h) (by omega)), if_neg (by omega), if_neg (by omega)]
             exact v_key57 (D := D) (w := wrd T (skp T i)) (by omega) (by omega) hr hX1 hT a3 hw hR1 (by omega) (by omega) b2 (by omega) b4 (fun τ f g1 g2 g3 g4 => hQ τ 0 (Or.inl ⟨rfl, f, by rw [hPk]; exact g1, hF1.tr g2, g3, g4⟩)) (fun τ k j' g1 g2 g3 g4 g5 g6 => hQ τ 1 (Or.inr ⟨rfl, k, j', by rw [hPk]; exact g1, hF1.tr g2, g3, g4, by rw [g5, a1.1 _ _ (by omega)], by rw [g6, a1.1 _ _ (by omega)]⟩)))
        · rw [nI_ltI (by omega) (by omega)] at zc44
          refine v_aload_n dX9_readKey_47 rfl ?_
          refine v_iconst dX9_readKey_48 ?_
          refine v_aload_n dX9_readKey_49 rfl ?_
          refine v_getI dX9_readKey_50 fl_RX9_28 rfl ?_
          rw [a2]
          refine v_callV2 dX9_readKey_53 mv_RX9_61 rfl rfl (Nat.le_of_ble_eq_true rfl) ?_
          refine ok_refuse ?_
          show V _ _ _ _ (_ :: _) _ _
          refine v_ireturn dX9_readKey_56 rfl (rfl) ?_
          first
          | exact h3 (by unfold Pkey; rw [if_pos hz])
          | exact h3 (by unfold Pkey; rw [if_neg (fun h => absurd (hw0 h) (by omega)), if_neg (by omega), if_pos (by omega)])
          | (exfalso; omega)
    · have hz := if01 zc20
      refine v_aload_n dX9_readKey_23 rfl ?_
      refine v_iconst dX9_readKey_24 ?_
      refine v_aload_n dX9_readKey_25 rfl ?_
      refine v_getI dX9_readKey_26 fl_RX9_28 rfl ?_
      rw [a2]
      refine v_callV2 dX9_readKey_29 mv_RX9_61 rfl rfl (Nat.le_of_ble_eq_true rfl) ?_
      refine ok_refuse ?_
      show V _ _ _ _ (_ :: _) _ _
      refine v_ireturn dX9_readKey_32 rfl (rfl) ?_
      exact hQ _ _ (Or.inl ⟨rfl, (1, skp T i), by unfold Pkey; rw [if_neg hz, if_pos zc11], Fr.set (Fr.set hF1 (Or.inl (by omega))) (Or.inl (by omega)), by rw [setI_ne (by omega), setI_same]; rfl, setI_same⟩)
theorem Pkey_skp {b m : Nat} (hi : i ≤ T.length) : Pkey T b m n (skp T i) = Pkey T b m n i := by unfold Pkey; rw [skp_skp hi]
theorem Pd0_skp (hi : i ≤ T.length) : Pd0 T (skp T i) = Pd0 T i := by unfold Pd0; rw [skp_skp hi]
theorem ok_read (hr : vIsR r) (hX : RepX σ T) (hT : vT T) (hQ : ∀ τ x, ((x = 0 ∧ ∃ f, Pread T = .inl f ∧ FrR r σ τ ∧ τ.1 1 2 = nI f.1 ∧ τ.1 1 3 = nI f.2) ∨ (x = 1 ∧ ∃ R, Pread T = .inr R ∧ FrR r σ τ ∧ RepR τ r R ∧ τ.1 1 3 = -1)) → Q (some (.int x)) τ) : Ok (D + 7) mX9_read [.ref 1, .ref r] σ Q := by
  have hl := hT.1
  have hr12 : r + 4 < 13 ∧ 3 ≤ r := by rcases hr with rfl | rfl <;> omega
  have loop : ∀ f c R j τ, c + f = 9 → R.2.2.2.2.length = c → vD 8 R → FrR r σ τ → RepR τ r R → τ.1 1 4 = nI j → j ≤ T.length → τ.1 1 3 = -1 → Pread T = Pkeys T f R j → V mX9_read (D + 7) 48 [some (.ref 1), some (.ref r), some (.int (nI c))] [] τ Q := by
    intro f
    induction f with
    | zero =>
      intro c R j τ hc hlen hv
      have := hv.2.2.2.2.2.2.2.1
      omega
    | succ f ih =>
      intro c R j τ hc hlen hv hF hR hn hj h3 hPr
      have hc8 := hv.2.2.2.2.2.2.2.1
      have hX1 : RepX τ T := hF.x hr hX
      have hp : skp T j ≤ T.length := spn_le hj
      refine v_iload_n dX9_read_48 rfl ?_
      refine v_bipush dX9_read_49 ?_
      refine v_icmp_gt dX9_read_51 (fun zc51 => ?_) (fun zc51 => ?_)
      · exact absurd zc51 (nI_nlt (a := 8) (by omega) (by omega))
      · refine v_aload_n dX9_read_54 rfl ?_
        refine v_callV0 dX9_read_55 mv_RX9_42 rfl rfl (Nat.le_of_ble_eq_true rfl) ?_
        refine ok_skip hX1 hT hn hj (fun τ1 a1 a2 => ?_)
        have hF1 : FrR r σ τ1 := hF.tr (FrR.of a1 (fun a b h => ⟨h.1, by omega, by omega⟩))
        have hX2 : RepX τ1 T := hF1.x hr hX
        have hR1 : RepR τ1 r R := hR.kept (fun a c h1 h2 => a1.1 _ _ (by omega))
        show V _ _ _ _ _ _ _
        refine v_aload_n dX9_read_58 rfl ?_
        refine v_getI dX9_read_59 fl_RX9_25 rfl ?_
        rw [a2]
        refine v_aload_n dX9_read_62 rfl ?_
        refine v_getI dX9_read_63 fl_RX9_15 rfl ?_
        rw [hX2.1]
        refine v_icmp_lt dX9_read_66 (fun zc66 => ?_) (fun zc66 => ?_)
        · rw [nI_ltI (by omega) (by omega)] at zc66
          refine v_aload_n dX9_read_71 rfl ?_
          refine v_aload_n dX9_read_72 rfl ?_
          refine v_callV1 dX9_read_73 mv_RX9_49 rfl rfl (Nat.le_of_ble_eq_true rfl) ?_
          refine ok_readKey hr hX2 hT a2 hp hR1 hv (fun τ2 x2 e2 => ?_)
          rw [Pkey_skp hj] at e2
          have hPk : Pread T = bnd (Pkey T R.2.1 R.2.2.2.1 R.2.2.2.2.length j) (fun k => Pkeys T f (addK R k.1) k.2) := by rw [hPr]; show (if T.length ≤ skp T j then _ else _) = _; rw [if_neg (by omega)]
          show V _ _ _ _ (_ :: _) _ _
          refine v_if_ne dX9_read_76 (fun zc76 => ?_) (fun zc76 => ?_)
          · obtain ⟨-, k, j2, q1, q2, q3, q4, q5, q6⟩ := e2.resolve_left (fun h => zc76 h.1)
            obtain ⟨k1, k2, k3⟩ := Pkey_r (by have := hv.2.1; omega) (by have := hv.2.2.2.2.2.1; have := hv.2.1; omega) q1
            have hvk : vD 8 (addK R k) := by
              obtain ⟨a1, a2, a3, a4, a5, a6, a7, a8, a9⟩ := hv
              obtain ⟨d1, d2, d3, d4, d5, d6, d7, d8, d9⟩ := vD.add (n := R.2.2.2.2.length) ⟨a1, a2, a3, a4, a5, a6, a7, Nat.le_refl _, a9⟩ k1
              exact ⟨d1, d2, d3, d4, d5, d6, d7, by omega, d9⟩
            have hlk : (addK R k).2.2.2.2.length = c + 1 := by show (R.2.2.2.2 ++ [k]).length = c + 1; rw [List.length_append, List.length_singleton]; omega
            refine v_iinc dX9_read_81 rfl (Nat.le_of_ble_eq_true rfl) rfl ?_
            refine v_goto dX9_read_84 ?_
            rw [nI_1]
            exact ih (c + 1) (addK R k) j2 τ2 (by omega) hlk hvk (hF1.tr q2) q3 q4 k3 (by rw [q6, a1.1 _ _ (by omega)]; exact h3) (by rw [hPk]; exact bnd_in q1)
          · obtain ⟨-, g, q1, q2, q3, q4⟩ := e2.resolve_right (fun h => by rw [h.1] at zc76; exact absurd zc76 (by decide))
            refine v_iconst dX9_read_79 ?_
            refine v_ireturn dX9_read_80 rfl (rfl) ?_
            exact hQ _ _ (Or.inl ⟨rfl, g, by rw [hPk]; exact bnd_il q1, hF1.tr q2, q3, q4⟩)
        · rw [nI_ltI (by omega) (by omega)] at zc66
          refine v_iconst dX9_read_69 ?_
          refine v_ireturn dX9_read_70 rfl (rfl) ?_
          exact hQ _ _ (Or.inr ⟨rfl, R, by rw [hPr]; unfold Pkeys; rw [if_pos (by omega)], hF1, hR1, by rw [a1.1 _ _ (by omega)]; exact h3⟩)
  obtain ⟨σ0, hσ0⟩ : ∃ σ0, σ0 = setI (setI (setI (setI (setI (setI (setI (setI σ r 0 (-1)) r 1 0) r 2 0) r 3 0) r 4 0) 1 2 0) 1 3 (-1)) 1 4 0 := ⟨_, rfl⟩
  have hF0 : FrR r σ σ0 := by
    rw [hσ0]
    exact Fr.set (Fr.set (Fr.set (Fr.set (Fr.set (Fr.set (Fr.set (Fr.set Fr.rf (Or.inr (by omega))) (Or.inr (by omega))) (Or.inr (by omega))) (Or.inr (by omega))) (Or.inr (by omega))) (Or.inl (by omega))) (Or.inl (by omega))) (Or.inl (by omega))
  have hX0 : RepX σ0 T := hF0.x hr hX
  have hR0 : RepR σ0 r (-1, 0, 0, 0, []) := (rep_empty (σ := σ) hr).kept (fun a b h1 h2 => by rw [hσ0, setI_ne (by omega), setI_ne (by omega), setI_ne (by omega)])
  have h40 : σ0.1 1 4 = nI 0 := by rw [hσ0, setI_same]; rfl
  have h30 : σ0.1 1 3 = -1 := by rw [hσ0, setI_ne (by omega), setI_same]
  have hp : skp T 0 ≤ T.length := spn_le (Nat.zero_le _)
  refine ok_enter rfl (Nat.le_of_ble_eq_true rfl) ?_
  refine v_aload_n dX9_read_0 rfl ?_
  refine v_callV0 dX9_read_1 mv_RX9_37 hr.lay rfl (Nat.le_of_ble_eq_true rfl) ?_
  refine ok_empty hr ?_
  show V _ _ _ _ _ _ _
  refine v_aload_n dX9_read_4 rfl ?_
  refine v_iconst dX9_read_5 ?_
  refine v_putI dX9_read_6 fp_RX9_19 rfl ?_
  refine v_aload_n dX9_read_9 rfl ?_
  refine v_iconst dX9_read_10 ?_
  refine v_putI dX9_read_11 fp_RX9_22 rfl ?_
  refine v_aload_n dX9_read_14 rfl ?_
  refine v_iconst dX9_read_15 ?_
  refine v_putI dX9_read_16 fp_RX9_25 rfl ?_
  rw [← hσ0]
  refine v_aload_n dX9_read_19 rfl ?_
  refine v_callV0 dX9_read_20 mv_RX9_42 rfl rfl (Nat.le_of_ble_eq_true rfl) ?_
  refine ok_skip hX0 hT h40 (Nat.zero_le _) (fun τ1 a1 a2 => ?_)
  have hF1 : FrR r σ τ1 := hF0.tr (FrR.of a1 (fun a b h => ⟨h.1, by omega, by omega⟩))
  have hX1 : RepX τ1 T := hF1.x hr hX
  have hR1 : RepR τ1 r (-1, 0, 0, 0, []) := hR0.kept (fun a c h1 h2 => a1.1 _ _ (by omega))
  have h31 : τ1.1 1 3 = -1 := by rw [a1.1 _ _ (by omega)]; exact h30
  show V _ _ _ _ _ _ _
  refine v_aload_n dX9_read_23 rfl ?_
  refine v_getI dX9_read_24 fl_RX9_25 rfl ?_
  rw [a2]
  refine v_aload_n dX9_read_27 rfl ?_
  refine v_getI dX9_read_28 fl_RX9_15 rfl ?_
  rw [hX1.1]
  refine v_icmp_lt dX9_read_31 (fun zc31 => ?_) (fun zc31 => ?_)
  · rw [nI_ltI (by omega) (by omega)] at zc31
    refine v_aload_n dX9_read_36 rfl ?_
    refine v_aload_n dX9_read_37 rfl ?_
    refine v_callV1 dX9_read_38 mv_RX9_45 rfl rfl (Nat.le_of_ble_eq_true rfl) ?_
    refine ok_readDial hr hX1 hT a2 hp hR1 (fun τ2 x2 e2 => ?_)
    rw [Pd0_skp (Nat.zero_le _)] at e2
    have hPr : Pread T = bnd (Pd0 T 0) (fun x => Pkeys T 9 x.1 x.2) := by
      unfold Pread Pd0
      rw [if_neg (by omega)]
      by_cases h : wrd T (skp T 0) = wd 0
      · rw [if_pos h, if_pos h]
      · rw [if_neg h, if_neg h]; rfl
    show V _ _ _ _ (_ :: _) _ _
    refine v_if_ne dX9_read_41 (fun zc41 => ?_) (fun zc41 => ?_)
    · obtain ⟨-, y, q1, q2, q3, q4, q5, q6⟩ := e2.resolve_left (fun h => zc41 h.1)
      have hd : vD 8 y.1 ∧ y.1.2.2.2.2 = [] ∧ y.2 ≤ T.length := by
        have q1' := q1
        unfold Pd0 at q1'
        split at q1'
        · exact Pdial_v q1'
        · cases q1'
      refine v_iconst dX9_read_46 ?_
      refine v_istore_n dX9_read_47 (Nat.le_of_ble_eq_true rfl) rfl ?_
      exact loop 9 0 y.1 y.2 τ2 (by omega) (by rw [hd.2.1]; rfl) hd.1 (hF1.tr q2) q3 q4 hd.2.2 (by rw [q6]; exact h31) (by rw [hPr]; exact bnd_in q1)
    · obtain ⟨-, g, q1, q2, q3, q4⟩ := e2.resolve_right (fun h => by rw [h.1] at zc41; exact absurd zc41 (by decide))
      refine v_iconst dX9_read_44 ?_
      refine v_ireturn dX9_read_45 rfl (rfl) ?_
      exact hQ _ _ (Or.inl ⟨rfl, g, by rw [hPr]; exact bnd_il q1, hF1.tr q2, q3, q4⟩)
  · rw [nI_ltI (by omega) (by omega)] at zc31
    refine v_iconst dX9_read_34 ?_
    refine v_ireturn dX9_read_35 rfl (rfl) ?_
    exact hQ _ _ (Or.inr ⟨rfl, _, by unfold Pread; rw [if_pos (by omega)], hF1, hR1, h31⟩)
end CX3
