/-! ===== the reference's text: keys, the whole ===== -/
def RepQ (σ : Wd) (R : Rk) : Prop := σ.1 44 15 = iz R.1 ∧ σ.1 44 16 = nI R.2.1 ∧ σ.1 44 17 = nI R.2.2.1 ∧ σ.1 44 18 = nI R.2.2.2.1 ∧ σ.1 44 19 = nI R.2.2.2.2.length ∧ ∀ (i : Nat) (k : Ky), R.2.2.2.2[i]? = some k → σ.1 47 (4 * i) = nI k.1 ∧ σ.1 47 (4 * i + 1) = nI k.2.1 ∧ σ.1 47 (4 * i + 2) = iz k.2.2.1 ∧ σ.1 47 (4 * i + 3) = iz k.2.2.2
def kd1 (w : List Nat) : Int := if w = wd 3 then 0 else if w = wd 4 then 1 else if w = wd 5 then 2 else if w = wd 6 then 3 else if w = wd 7 then 4 else -1
section MR2
variable {D : Nat} {σ τ : Wd} {Q : Option Value → Wd → Prop} {T : List Nat} {i p n k lo hi j w m : Nat} {R : Rk}
theorem ok_isCost (hw : w + 1 < 32) (hX : RepMX σ T) (hT : vT T) (h8 : σ.1 44 8 = nI i) (hi : i ≤ T.length) (hQ : ∀ τ x, ((x = 0 ∧ ∃ f, Pcost T i = .inl f ∧ MXF σ τ ∧ τ.1 44 13 = nI f.2 ∧ τ.1 44 14 = nI f.1) ∨ (x = 1 ∧ ∃ c j, Pcost T i = .inr (c, j) ∧ MdF (fun a b => pT a b ∨ (a = 47 ∧ b = w + 1)) σ τ ∧ τ.1 47 (w + 1) = nI c ∧ τ.1 44 8 = nI j)) → Q (some (.int x)) τ) : Ok (D + 3) mX12_isCost [.ref 44, .int (nI w)] σ Q := by
  refine ok_enter rfl (Nat.le_of_ble_eq_true rfl) ?_
  refine v_aload_n dX12_isCost_0 rfl ?_
  refine v_iload_n dX12_isCost_1 rfl ?_
  refine v_iconst dX12_isCost_2 ?_
  refine v_iadd dX12_isCost_3 ?_
  rw [nI_1]
  refine v_iconst dX12_isCost_4 ?_
  refine v_bipush dX12_isCost_5 ?_
  refine v_callV3 dX12_isCost_7 mv_RX12_124 rfl rfl (Nat.le_of_ble_eq_true rfl) ?_
  refine ok_isNext (w := w + 1) (lo := 1) (k := 99) (Or.inr ⟨rfl, hw⟩) hX hT h8 hi (by omega) (by omega) (fun τ1 x1 n1 => ?_)
  show V _ _ _ _ (_ :: _) _ _
  refine v_if_eq dX12_isCost_10 (fun zc10 => ?_) (fun zc10 => ?_)
  · obtain ⟨-, f, q1, q2, q3, q4⟩ := n1.resolve_right (fun h => by rw [h.1] at zc10; exact absurd zc10 (by decide))
    have hf : Q (some (.int 0)) τ1 := hQ _ _ (Or.inl ⟨rfl, f, by unfold Pcost; exact bnd_il q1, q2, q3, q4⟩)
    refine v_iconst dX12_isCost_24 ?_
    refine v_ireturn dX12_isCost_25 rfl (rfl) ?_
    exact hf
  · obtain ⟨-, c, j1, q1, q2, q3, q4, q5, q6⟩ := n1.resolve_left (fun h => zc10 h.1)
    have hj1 := Pn_j hi q1
    have hX1 : RepMX τ1 T := q2.x hX (by unfold pT; omega) (fun b => by unfold pT; omega)
    refine v_aload_n dX12_isCost_13 rfl ?_
    refine v_callV0 dX12_isCost_14 mv_RX12_136 rfl rfl (Nat.le_of_ble_eq_true rfl) ?_
    refine ok_mends hX1 hT q3 hj1 (fun τ2 x2 n2 => ?_)
    show V _ _ _ _ (_ :: _) _ _
    refine v_if_eq dX12_isCost_17 (fun zc17 => ?_) (fun zc17 => ?_)
    · obtain ⟨-, f, p1, p2, p3, p4⟩ := n2.resolve_right (fun h => by rw [h.1] at zc17; exact absurd zc17 (by decide))
      have hf : Q (some (.int 0)) τ2 := hQ _ _ (Or.inl ⟨rfl, f, by unfold Pcost; rw [bnd_in q1]; exact bnd_il p1, (MXF.of q2 (fun a b h => h.elim (fun h => h.x) (fun h => Or.inr h.1))).tr p2, p3, p4⟩)
      refine v_iconst dX12_isCost_24 ?_
      refine v_ireturn dX12_isCost_25 rfl (rfl) ?_
      exact hf
    · obtain ⟨-, j2, p1, p2, p3⟩ := n2.resolve_left (fun h => zc17 h.1)
      have hf : Q (some (.int 1)) τ2 := hQ _ _ (Or.inr ⟨rfl, c, j2, by unfold Pcost; rw [bnd_in q1]; exact bnd_in p1, (q2.mn (fun a b h => h.elim Or.inl (fun h => Or.inr ⟨h.1, h.2.1⟩))).tr (p2.mn (fun a b h => Or.inl h)), by rw [p2.1 _ _ (by unfold pT; omega)]; exact q6 hw, p3⟩)
      refine v_iconst dX12_isCost_20 ?_
      refine v_goto dX12_isCost_21 ?_
      refine v_ireturn dX12_isCost_25 rfl (rfl) ?_
      exact hf
theorem kd_now {w : List Nat} : (1 ≤ kdW w ∧ kdW w ≤ 3) ↔ (w = wd 4 ∨ w = wd 5 ∨ w = wd 6) := by
  constructor
  · intro h
    unfold kdW at h
    repeat' split at h
    all_goals first | (exact Or.inl (by assumption)) | (exact Or.inr (Or.inl (by assumption))) | (exact Or.inr (Or.inr (by assumption))) | (exfalso; omega)
  · rintro (rfl | rfl | rfl) <;> decide
theorem ok_isNow (hw : w + 3 < 32) (hm1 : 1 ≤ m) (hm2 : m ≤ 100) (h18 : σ.1 44 18 = nI m) (hX : RepMX σ T) (hT : vT T) (h8 : σ.1 44 8 = nI i) (hi : i ≤ T.length) (hQ : ∀ τ x, ((x = 0 ∧ ∃ f, Pnow T m i = .inl f ∧ MXF σ τ ∧ τ.1 44 13 = nI f.2 ∧ τ.1 44 14 = nI f.1) ∨ (x = 1 ∧ ∃ k j, Pnow T m i = .inr (k, j) ∧ MdF (fun a b => pT a b ∨ (a = 47 ∧ w < b ∧ b ≤ w + 3)) σ τ ∧ k.1 = 6 ∧ τ.1 47 (w + 1) = nI k.2.1 ∧ τ.1 47 (w + 2) = iz k.2.2.1 ∧ τ.1 47 (w + 3) = iz k.2.2.2 ∧ τ.1 44 8 = nI j)) → Q (some (.int x)) τ) : Ok (D + 4) mX12_isNow [.ref 44, .int (nI w)] σ Q := by
  have hp : skp T i ≤ T.length := spn_le hi
  have hwl := wrd_len hp
  have hkr := kdW_rng (wrd T (skp T i))
  -- behind the sign
  have k57 : ∀ (v : Int) (τ1 : Wd), (v = if 1 ≤ kdW (wrd T (skp T i)) ∧ kdW (wrd T (skp T i)) ≤ 3 then kdW (wrd T (skp T i)) else -1) → MdF pT σ τ1 → τ1.1 44 9 = nI (skp T i) → (1 ≤ kdW (wrd T (skp T i)) ∧ kdW (wrd T (skp T i)) ≤ 3 → τ1.1 44 8 = nI (skp T i + (wrd T (skp T i)).length)) → V mX12_isNow (D + 4) 57 [some (.ref 44), some (.int (nI w))] [.int (iz v), .int (nI (w + 3)), .ref 47] τ1 Q := by
    intro v τ1 hv hF1 h9 h8'
    obtain ⟨τ2, hτ2⟩ : ∃ τ2, τ2 = setI τ1 47 (w + 3) (iz v) := ⟨_, rfl⟩
    have hF2 : MdF (fun a b => pT a b ∨ (a = 47 ∧ w < b ∧ b ≤ w + 3)) σ τ2 := by rw [hτ2]; exact (hF1.mn (fun a b h => Or.inl h)).set (Or.inr (by omega))
    have hX2 : RepMX τ2 T := hF2.x hX (by unfold pT; omega) (fun b => by unfold pT; omega)
    have h92 : τ2.1 44 9 = nI (skp T i) := by rw [hτ2, setI_ne (by omega)]; exact h9
    have hr3 : τ2.1 47 (w + 3) = iz v := by rw [hτ2, setI_same]
    have h182 : τ2.1 44 18 = nI m := by rw [hF2.1 _ _ (by unfold pT; omega)]; exact h18
    by_cases hc : 1 ≤ kdW (wrd T (skp T i)) ∧ kdW (wrd T (skp T i)) ≤ 3
    · rw [if_pos hc] at hv
      have h82 : τ2.1 44 8 = nI (skp T i + (wrd T (skp T i)).length) := by rw [hτ2, setI_ne (by omega)]; exact h8' hc
      have hPk : Pnow T m i = bnd (Pn T 0 (m - 1) (skp T i + (wrd T (skp T i)).length)) (fun u => bnd (Pcost T u.2) (fun c => .inr ((6, c.1, (u.1 : Int), kdW (wrd T (skp T i))), c.2))) := by unfold Pnow; rw [if_pos hc]
      refine v_iastore dX12_isNow_57 rfl (by exact vp_in_nI hw (by omega)) ?_
      rw [nI_clamp (by omega), ← hτ2]
      refine v_aload_n dX12_isNow_58 rfl ?_
      refine v_getR (q := 47) dX12_isNow_59 fl_RX12_23 rfl rfl ?_
      refine v_iload_n dX12_isNow_62 rfl ?_
      refine v_iconst dX12_isNow_63 ?_
      refine v_iadd dX12_isNow_64 ?_
      rw [show (3 : Int32) = nI 3 from rfl, nI_add]
      refine v_iaload dX12_isNow_65 rfl (by exact vp_in_nI hw (by omega)) ?_
      rw [nI_clamp (by omega), hr3]
      refine v_iconst dX12_isNow_66 ?_
      refine v_icmp_ne dX12_isNow_67 (fun zc67 => ?_) (fun zc67 => ?_)
      · refine v_aload_n dX12_isNow_76 rfl ?_
        refine v_iload_n dX12_isNow_77 rfl ?_
        refine v_iconst dX12_isNow_78 ?_
        refine v_iadd dX12_isNow_79 ?_
        refine v_iconst dX12_isNow_80 ?_
        refine v_aload_n dX12_isNow_81 rfl ?_
        refine v_getI dX12_isNow_82 fl_RX12_133 rfl ?_
        rw [h182]
        refine v_iconst dX12_isNow_85 ?_
        refine v_isub dX12_isNow_86 ?_
        rw [show (2 : Int32) = nI 2 from rfl, nI_add, show (1 : Int32) = nI 1 from rfl, zI_sub hm1]
        refine v_callV3 dX12_isNow_87 mv_RX12_124 rfl rfl (Nat.le_of_ble_eq_true rfl) ?_
        refine ok_isNext (w := w + 2) (lo := 0) (k := m - 1) (Or.inr ⟨rfl, by omega⟩) hX2 hT h82 hwl (by omega) (by omega) (fun τ3 x3 n3 => ?_)
        show V _ _ _ _ (_ :: _) _ _
        refine v_if_eq dX12_isNow_90 (fun zc90 => ?_) (fun zc90 => ?_)
        · obtain ⟨-, f, q1, q2, q3, q4⟩ := n3.resolve_right (fun h => by rw [h.1] at zc90; exact absurd zc90 (by decide))
          have hf : Q (some (.int 0)) τ3 := hQ _ _ (Or.inl ⟨rfl, f, by rw [hPk]; exact bnd_il q1, (MXF.of hF2 (fun a b h => h.elim (fun h => h.x) (fun h => Or.inr h.1))).tr q2, q3, q4⟩)
          refine v_iconst dX12_isNow_105 ?_
          refine v_ireturn dX12_isNow_106 rfl (rfl) ?_
          exact hf
        · obtain ⟨-, u, j1, q1, q2, q3, q4, q5, q6⟩ := n3.resolve_left (fun h => zc90 h.1)
          have hj1 := Pn_j hwl q1
          have hX3 : RepMX τ3 T := q2.x hX2 (by unfold pT; omega) (fun b => by unfold pT; omega)
          refine v_aload_n dX12_isNow_93 rfl ?_
          refine v_iload_n dX12_isNow_94 rfl ?_
          refine v_callV1 dX12_isNow_95 mv_RX12_146 rfl rfl (Nat.le_of_ble_eq_true rfl) ?_
          refine ok_isCost (w := w) (by omega) hX3 hT q3 hj1 (fun τ4 x4 n4 => ?_)
          show V _ _ _ _ (_ :: _) _ _
          refine v_if_eq dX12_isNow_98 (fun zc98 => ?_) (fun zc98 => ?_)
          · obtain ⟨-, f, p1, p2, p3, p4⟩ := n4.resolve_right (fun h => by rw [h.1] at zc98; exact absurd zc98 (by decide))
            have hf : Q (some (.int 0)) τ4 := hQ _ _ (Or.inl ⟨rfl, f, by rw [hPk, bnd_in q1]; exact bnd_il p1, ((MXF.of hF2 (fun a b h => h.elim (fun h => h.x) (fun h => Or.inr h.1))).tr (MXF.of q2 (fun a b h => h.elim (fun h => h.x) (fun h => Or.inr h.1)))).tr p2, p3, p4⟩)
            refine v_iconst dX12_isNow_105 ?_
            refine v_ireturn dX12_isNow_106 rfl (rfl) ?_
            exact hf
          · obtain ⟨-, c, j2, p1, p2, p3, p4⟩ := n4.resolve_left (fun h => zc98 h.1)
            have hf : Q (some (.int 1)) τ4 := hQ _ _ (Or.inr ⟨rfl, (6, c, (u : Int), kdW (wrd T (skp T i))), j2, by rw [hPk, bnd_in q1]; exact bnd_in p1, (hF2.tr (q2.mn (fun a b h => h.elim Or.inl (fun h => Or.inr ⟨h.1, by omega, by omega⟩)))).tr (p2.mn (fun a b h => h.elim Or.inl (fun h => Or.inr ⟨h.1, by omega, by omega⟩))), rfl, p3, by rw [p2.1 _ _ (by unfold pT; omega), q6 (by omega)]; exact iz_nI u, by rw [p2.1 _ _ (by unfold pT; omega), q2.1 _ _ (by unfold pT; omega), hr3, hv], p4⟩)
            refine v_iconst dX12_isNow_101 ?_
            refine v_goto dX12_isNow_102 ?_
            refine v_ireturn dX12_isNow_106 rfl (rfl) ?_
            exact hf
      · exact absurd ((iz_eq (b := -1) (by omega) (by omega) (by omega) (by omega)).mp zc67) (by omega)
    · rw [if_neg hc] at hv
      subst hv
      refine v_iastore dX12_isNow_57 rfl (by exact vp_in_nI hw (by omega)) ?_
      rw [nI_clamp (by omega), ← hτ2]
      refine v_aload_n dX12_isNow_58 rfl ?_
      refine v_getR (q := 47) dX12_isNow_59 fl_RX12_23 rfl rfl ?_
      refine v_iload_n dX12_isNow_62 rfl ?_
      refine v_iconst dX12_isNow_63 ?_
      refine v_iadd dX12_isNow_64 ?_
      rw [show (3 : Int32) = nI 3 from rfl, nI_add]
      refine v_iaload dX12_isNow_65 rfl (by exact vp_in_nI hw (by omega)) ?_
      rw [nI_clamp (by omega), hr3]
      refine v_iconst dX12_isNow_66 ?_
      refine v_icmp_ne dX12_isNow_67 (fun zc67 => ?_) (fun zc67 => ?_)
      · exact absurd rfl zc67
      · refine v_aload_n dX12_isNow_70 rfl ?_
        refine v_iconst dX12_isNow_71 ?_
        refine v_callV1 dX12_isNow_72 mv_RX12_113 rfl rfl (Nat.le_of_ble_eq_true rfl) ?_
        refine ok_fails h92 ?_
        show V _ _ _ _ (_ :: _) _ _
        refine v_ireturn dX12_isNow_75 rfl (rfl) ?_
        exact hQ _ _ (Or.inl ⟨rfl, (1, skp T i), by unfold Pnow; rw [if_neg hc], MdF.set (MdF.set (MXF.of hF2 (fun a b h => h.elim (fun h => h.x) (fun h => Or.inr h.1))) (Or.inl (by omega))) (Or.inl (by omega)), by rw [setI_ne (by omega), setI_same], by rw [setI_same]; rfl⟩)
  refine ok_enter rfl (Nat.le_of_ble_eq_true rfl) ?_
  refine v_aload_n dX12_isNow_0 rfl ?_
  refine v_callV0 dX12_isNow_1 mv_RX12_110 rfl rfl (Nat.le_of_ble_eq_true rfl) ?_
  refine ok_next hX hT h8 hi (fun τ1 a1 a2 a3 a4 a5 => ?_)
  have h57 := fun v hv h8' => k57 v τ1 hv a1.md a2 h8'
  show V _ _ _ _ _ _ _
  refine v_aload_n dX12_isNow_4 rfl ?_
  refine v_getR (q := 47) dX12_isNow_5 fl_RX12_23 rfl rfl ?_
  refine v_iload_n dX12_isNow_8 rfl ?_
  refine v_iconst dX12_isNow_9 ?_
  refine v_iadd dX12_isNow_10 ?_
  rw [show (3 : Int32) = nI 3 from rfl, nI_add]
  refine v_aload_n dX12_isNow_11 rfl ?_
  refine v_getJ dX12_isNow_12 fl_RX12_93 rfl ?_
  rw [a3]
  refine v_ldc2 dX12_isNow_15 cn_RX12_140 ?_
  refine v_lcmp dX12_isNow_18 ?_
  refine v_if_ne dX12_isNow_19 (fun zc19 => ?_) (fun zc19 => ?_)
  · rw [lg_eq, show (324262 : Int64) = lN (fo27 (wd 4)) from rfl, tk_w (by decide)] at zc19
    refine v_aload_n dX12_isNow_26 rfl ?_
    refine v_getJ dX12_isNow_27 fl_RX12_93 rfl ?_
    rw [a3]
    refine v_ldc2 dX12_isNow_30 cn_RX12_142 ?_
    refine v_lcmp dX12_isNow_33 ?_
    refine v_if_ne dX12_isNow_34 (fun zc34 => ?_) (fun zc34 => ?_)
    · rw [lg_eq, show (240373 : Int64) = lN (fo27 (wd 5)) from rfl, tk_w (by decide)] at zc34
      refine v_aload_n dX12_isNow_41 rfl ?_
      refine v_getJ dX12_isNow_42 fl_RX12_93 rfl ?_
      rw [a3]
      refine v_ldc2 dX12_isNow_45 cn_RX12_144 ?_
      refine v_lcmp dX12_isNow_48 ?_
      refine v_if_ne dX12_isNow_49 (fun zc49 => ?_) (fun zc49 => ?_)
      · rw [lg_eq, show (10815598 : Int64) = lN (fo27 (wd 6)) from rfl, tk_w (by decide)] at zc49
        refine v_iconst dX12_isNow_56 ?_
        first
        | exact h57 1 (by rw [zc19]; decide) (fun _ => by rw [a4, nxt_w (q := 4) (by decide) zc19])
        | exact h57 2 (by rw [zc34]; decide) (fun _ => by rw [a4, nxt_w (q := 5) (by decide) zc34])
        | exact h57 3 (by rw [zc49]; decide) (fun _ => by rw [a4, nxt_w (q := 6) (by decide) zc49])
        | exact h57 (-1) (by rw [if_neg (fun h => (kd_now.mp h).elim zc19 (fun h => h.elim zc34 zc49))]) (fun h => absurd h (fun h => (kd_now.mp h).elim zc19 (fun h => h.elim zc34 zc49)))
      · rw [lg_eq, show (10815598 : Int64) = lN (fo27 (wd 6)) from rfl, tk_w (by decide)] at zc49
        refine v_iconst dX12_isNow_52 ?_
        refine v_goto dX12_isNow_53 ?_
        first
        | exact h57 1 (by rw [zc19]; decide) (fun _ => by rw [a4, nxt_w (q := 4) (by decide) zc19])
        | exact h57 2 (by rw [zc34]; decide) (fun _ => by rw [a4, nxt_w (q := 5) (by decide) zc34])
        | exact h57 3 (by rw [zc49]; decide) (fun _ => by rw [a4, nxt_w (q := 6) (by decide) zc49])
        | exact h57 (-1) (by rw [if_neg (fun h => (kd_now.mp h).elim zc19 (fun h => h.elim zc34 zc49))]) (fun h => absurd h (fun h => (kd_now.mp h).elim zc19 (fun h => h.elim zc34 zc49)))
    · rw [lg_eq, show (240373 : Int64) = lN (fo27 (wd 5)) from rfl, tk_w (by decide)] at zc34
      refine v_iconst dX12_isNow_37 ?_
      refine v_goto dX12_isNow_38 ?_
      first
      | exact h57 1 (by rw [zc19]; decide) (fun _ => by rw [a4, nxt_w (q := 4) (by decide) zc19])
      | exact h57 2 (by rw [zc34]; decide) (fun _ => by rw [a4, nxt_w (q := 5) (by decide) zc34])
      | exact h57 3 (by rw [zc49]; decide) (fun _ => by rw [a4, nxt_w (q := 6) (by decide) zc49])
      | exact h57 (-1) (by rw [if_neg (fun h => (kd_now.mp h).elim zc19 (fun h => h.elim zc34 zc49))]) (fun h => absurd h (fun h => (kd_now.mp h).elim zc19 (fun h => h.elim zc34 zc49)))
  · rw [lg_eq, show (324262 : Int64) = lN (fo27 (wd 4)) from rfl, tk_w (by decide)] at zc19
    refine v_iconst dX12_isNow_22 ?_
    refine v_goto dX12_isNow_23 ?_
    first
    | exact h57 1 (by rw [zc19]; decide) (fun _ => by rw [a4, nxt_w (q := 4) (by decide) zc19])
    | exact h57 2 (by rw [zc34]; decide) (fun _ => by rw [a4, nxt_w (q := 5) (by decide) zc34])
    | exact h57 3 (by rw [zc49]; decide) (fun _ => by rw [a4, nxt_w (q := 6) (by decide) zc49])
    | exact h57 (-1) (by rw [if_neg (fun h => (kd_now.mp h).elim zc19 (fun h => h.elim zc34 zc49))]) (fun h => absurd h (fun h => (kd_now.mp h).elim zc19 (fun h => h.elim zc34 zc49)))
theorem kdW_alt (w : List Nat) : kdW w = if w = wd 8 then 5 else if w = wd 9 then 6 else if w = wd 10 then 7 else kd1 w := by
  by_cases h8 : w = wd 8
  · subst h8; decide
  · by_cases h9 : w = wd 9
    · subst h9; decide
    · by_cases h10 : w = wd 10
      · subst h10; decide
      · rw [if_neg h8, if_neg h9, if_neg h10]
        unfold kdW kd1
        rw [if_neg h8, if_neg h9, if_neg h10]
theorem kd_wd {w : List Nat} (h : kdW w ≠ -1) : ∃ q, q < 11 ∧ w = wd q := by
  unfold kdW at h
  repeat' split at h
  · exact ⟨3, by decide, by assumption⟩
  · exact ⟨4, by decide, by assumption⟩
  · exact ⟨5, by decide, by assumption⟩
  · exact ⟨6, by decide, by assumption⟩
  · exact ⟨7, by decide, by assumption⟩
  · exact ⟨8, by decide, by assumption⟩
  · exact ⟨9, by decide, by assumption⟩
  · exact ⟨10, by decide, by assumption⟩
  · exact absurd rfl h
/-- a key, its first word read already -/
theorem ok_isKey2 (hX : RepMX σ T) (hT : vT T) (hi : i ≤ T.length) (h9 : σ.1 44 9 = nI (skp T i)) (h10 : σ.2.1 44 10 = tk T (skp T i)) (h8 : σ.1 44 8 = nI (nxt T (skp T i))) (hR : RepQ σ R) (hv : vD 8 R)
    (hQ : ∀ τ x, ((x = 0 ∧ ∃ f, Pkey T R.2.1 R.2.2.2.1 R.2.2.2.2.length i = .inl f ∧ MXF σ τ ∧ τ.1 44 13 = nI f.2 ∧ τ.1 44 14 = nI f.1) ∨ (x = 1 ∧ ∃ k j, Pkey T R.2.1 R.2.2.2.1 R.2.2.2.2.length i = .inr (k, j) ∧ MXF σ τ ∧ RepQ τ (addK R k) ∧ τ.1 44 8 = nI j)) → Q (some (.int x)) τ) : Ok (D + 5) mX12_isKey [.ref 44] σ Q := by
  have hp : skp T i ≤ T.length := spn_le hi
  have hwl := wrd_len hp
  have hkr := kdW_rng (wrd T (skp T i))
  have hw0 : wrd T (skp T i) = wd 0 → kdW (wrd T (skp T i)) = -1 := fun h => by rw [h]; decide
  obtain ⟨-, b1, b2, -, -, b3, b4, b5, -⟩ := id hv
  obtain ⟨r15, r16, r17, r18, r19, rk⟩ := id hR
  have bad : ∀ (z : Nat), Pkey T R.2.1 R.2.2.2.1 R.2.2.2.2.length i = .inl (z, skp T i) → Q (some (.int 0)) (setI (setI σ 44 13 (nI (skp T i))) 44 14 (nI z)) := fun z h => hQ _ _ (Or.inl ⟨rfl, (z, skp T i), h, MdF.set (MdF.set MdF.rf (Or.inl (by omega))) (Or.inl (by omega)), by rw [setI_ne (by omega), setI_same], setI_same⟩)
  -- what is left, once the key's kind stands
  have k211 : ∀ (kd n : Nat) (τ : Wd), kdW (wrd T (skp T i)) = (kd : Int) → n = R.2.2.2.2.length → n < 8 → wrd T (skp T i) ≠ wd 0 → τ = setI (setI (setI (setI σ 44 19 (nI (n + 1))) 47 (4 * n) (nI kd)) 47 (4 * n + 2) (-1)) 47 (4 * n + 3) (-1) → V mX12_isKey (D + 5) 211 [some (.ref 44), some (.int (nI kd)), some (.int (nI (4 * n))), none] [] τ Q := by
    intro kd n τ hkd hn hn8 hnd hτ
    have hkt : ∀ a b, ¬ ((a = 44 ∧ b = 19) ∨ (a = 47 ∧ (b = 4 * n ∨ b = 4 * n + 2 ∨ b = 4 * n + 3))) → τ.1 a b = σ.1 a b := fun a b h => by rw [hτ, setI_ne (by omega), setI_ne (by omega), setI_ne (by omega), setI_ne (by omega)]
    have hF : MdF (fun a b => (a = 44 ∧ b = 19) ∨ (a = 47 ∧ 4 * n ≤ b)) σ τ := ⟨fun a b h => hkt a b (by omega), by rw [hτ]; exact fun _ _ _ => rfl, by rw [hτ]; rfl⟩
    have hXF : MXF σ τ := MXF.of hF (fun a b h => by omega)
    have hX1 : RepMX τ T := hXF.x hX
    have g19 : τ.1 44 19 = nI (n + 1) := by rw [hτ, setI_ne (by omega), setI_ne (by omega), setI_ne (by omega), setI_same]
    have g0 : τ.1 47 (4 * n) = nI kd := by rw [hτ, setI_ne (by omega), setI_ne (by omega), setI_same]
    have g2 : τ.1 47 (4 * n + 2) = -1 := by rw [hτ, setI_ne (by omega), setI_same]
    have g3 : τ.1 47 (4 * n + 3) = -1 := by rw [hτ, setI_same]
    obtain ⟨q0, hq0, hwq⟩ := kd_wd (show kdW (wrd T (skp T i)) ≠ -1 by omega)
    have g8 : τ.1 44 8 = nI (skp T i + (wrd T (skp T i)).length) := by rw [hkt _ _ (by omega), h8, nxt_w hq0 hwq]
    have g16 : τ.1 44 16 = nI R.2.1 := by rw [hkt _ _ (by omega)]; exact r16
    have g18 : τ.1 44 18 = nI R.2.2.2.1 := by rw [hkt _ _ (by omega)]; exact r18
    have hPk : Pkey T R.2.1 R.2.2.2.1 R.2.2.2.2.length i = Pkr T R.2.1 R.2.2.2.1 (wrd T (skp T i)) (skp T i + (wrd T (skp T i)).length) := by unfold Pkey; rw [if_neg hnd, if_neg (by omega), if_neg (by omega)]
    -- the key stands whole
    have good : ∀ (τ2 : Wd) (k : Ky) (j : Nat), MdF (fun a b => pT a b ∨ (a = 47 ∧ 4 * n < b)) τ τ2 → k.1 = kd → τ2.1 47 (4 * n + 1) = nI k.2.1 → τ2.1 47 (4 * n + 2) = iz k.2.2.1 → τ2.1 47 (4 * n + 3) = iz k.2.2.2 → τ2.1 44 8 = nI j → Pkey T R.2.1 R.2.2.2.1 R.2.2.2.2.length i = .inr (k, j) → Q (some (.int 1)) τ2 := by
      intro τ2 k j hF2 hk0 hk1 hk2 hk3 hj hP
      have e2 : ∀ a b, ¬ (pT a b ∨ (a = 44 ∧ b = 19) ∨ (a = 47 ∧ 4 * n ≤ b)) → τ2.1 a b = σ.1 a b := fun a b h => by rw [hF2.1 a b (fun hh => h (hh.elim Or.inl (fun hh => Or.inr (Or.inr ⟨hh.1, by omega⟩)))), hF.1 a b (fun hh => h (Or.inr hh))]
      refine hQ _ _ (Or.inr ⟨rfl, k, j, hP, hXF.tr (MXF.of hF2 (fun a b h => h.elim (fun h => h.x) (fun h => Or.inr h.1))), ⟨?_, ?_, ?_, ?_, ?_, fun i2 k2 hi2 => ?_⟩, hj⟩)
      · rw [e2 _ _ (by unfold pT; omega)]; exact r15
      · rw [e2 _ _ (by unfold pT; omega)]; exact r16
      · rw [e2 _ _ (by unfold pT; omega)]; exact r17
      · rw [e2 _ _ (by unfold pT; omega)]; exact r18
      · rw [hF2.1 _ _ (by unfold pT; omega), g19]
        show nI (n + 1) = nI (R.2.2.2.2 ++ [k]).length
        rw [List.length_append, List.length_singleton, hn]
      · have hi3 : (R.2.2.2.2 ++ [k])[i2]? = some k2 := hi2
        rcases Nat.lt_or_ge i2 R.2.2.2.2.length with h1 | h1
        · rw [List.getElem?_append_left h1] at hi3
          rw [e2 _ _ (by unfold pT; omega), e2 _ _ (by unfold pT; omega), e2 _ _ (by unfold pT; omega), e2 _ _ (by unfold pT; omega)]
          exact rk i2 k2 hi3
        · have hlt := (List.getElem?_eq_some_iff.mp hi3).1
          rw [List.length_append, List.length_singleton] at hlt
          have e1 : i2 = n := by omega
          rw [List.getElem?_append_right h1, show i2 - R.2.2.2.2.length = 0 by omega] at hi3
          have e3 : k = k2 := Option.some.inj hi3
          rw [e1, ← e3]
          exact ⟨by rw [hF2.1 _ _ (by unfold pT; omega), g0, hk0], hk1, hk2, hk3⟩
    have fail : ∀ (τ2 : Wd) (f : Flt), MXF τ τ2 → τ2.1 44 13 = nI f.2 → τ2.1 44 14 = nI f.1 → Pkey T R.2.1 R.2.2.2.1 R.2.2.2.2.length i = .inl f → Q (some (.int 0)) τ2 := fun τ2 f h1 h2 h3 h4 => hQ _ _ (Or.inl ⟨rfl, f, h4, hXF.tr h1, h2, h3⟩)
    have f255 : ∀ (τ2 : Wd) x3, Q (some (.int 0)) τ2 → V mX12_isKey (D + 5) 255 [some (.ref 44), some (.int (nI kd)), some (.int (nI (4 * n))), x3] [.int 0] τ2 Q := by
      intro τ2 x3 hf
      refine v_istore_n dX12_isKey_255 (Nat.le_of_ble_eq_true rfl) rfl ?_
      refine v_iload_n dX12_isKey_256 rfl ?_
      refine v_if_eq dX12_isKey_257 (fun zc257 => ?_) (fun zc257 => ?_)
      · refine v_iconst dX12_isKey_287 ?_
        refine v_istore_n dX12_isKey_288 (Nat.le_of_ble_eq_true rfl) rfl ?_
        refine v_iload_n dX12_isKey_289 rfl ?_
        refine v_if_eq dX12_isKey_290 (fun zc290 => ?_) (fun zc290 => ?_)
        · refine v_iconst dX12_isKey_305 ?_
          refine v_ireturn dX12_isKey_306 rfl (rfl) ?_
          exact hf
        · exact absurd rfl zc290
      · exact absurd rfl zc257
    have f288 : ∀ (τ2 : Wd) x3, Q (some (.int 0)) τ2 → V mX12_isKey (D + 5) 288 [some (.ref 44), some (.int (nI kd)), some (.int (nI (4 * n))), x3] [.int 0] τ2 Q := by
      intro τ2 x3 hf
      refine v_istore_n dX12_isKey_288 (Nat.le_of_ble_eq_true rfl) rfl ?_
      refine v_iload_n dX12_isKey_289 rfl ?_
      refine v_if_eq dX12_isKey_290 (fun zc290 => ?_) (fun zc290 => ?_)
      · refine v_iconst dX12_isKey_305 ?_
        refine v_ireturn dX12_isKey_306 rfl (rfl) ?_
        exact hf
      · exact absurd rfl zc290
    have t288 : ∀ (τ1 : Wd) (j1 : Nat) (a b : Int) x3, MdF (fun a b => pT a b ∨ (a = 47 ∧ 4 * n + 1 < b)) τ τ1 → τ1.1 47 (4 * n + 2) = iz a → τ1.1 47 (4 * n + 3) = iz b → τ1.1 44 8 = nI j1 → j1 ≤ T.length → Pkey T R.2.1 R.2.2.2.1 R.2.2.2.2.length i = bnd (Pcost T j1) (fun c => .inr ((kd, c.1, a, b), c.2)) → V mX12_isKey (D + 5) 288 [some (.ref 44), some (.int (nI kd)), some (.int (nI (4 * n))), x3] [.int 1] τ1 Q := by
      intro τ1 j1 a b x3 hF1 e2 e3 e8 hj1 hP
      have hX2 : RepMX τ1 T := hF1.x hX1 (by unfold pT; omega) (fun b => by unfold pT; omega)
      refine v_istore_n dX12_isKey_288 (Nat.le_of_ble_eq_true rfl) rfl ?_
      refine v_iload_n dX12_isKey_289 rfl ?_
      refine v_if_eq dX12_isKey_290 (fun zc290 => ?_) (fun zc290 => ?_)
      · exact absurd zc290 (by decide)
      · refine v_aload_n dX12_isKey_293 rfl ?_
        refine v_iload_n dX12_isKey_294 rfl ?_
        refine v_callV1 dX12_isKey_295 mv_RX12_146 rfl rfl (Nat.le_of_ble_eq_true rfl) ?_
        refine ok_isCost (D := D + 1) (w := 4 * n) (by omega) hX2 hT e8 hj1 (fun τ4 x4 n4 => ?_)
        show V _ _ _ _ (_ :: _) _ _
        refine v_if_eq dX12_isKey_298 (fun zc298 => ?_) (fun zc298 => ?_)
        · obtain ⟨-, f, p1, p2, p3, p4⟩ := n4.resolve_right (fun h => by rw [h.1] at zc298; exact absurd zc298 (by decide))
          have hf : Q (some (.int 0)) τ4 := fail τ4 f ((MXF.of hF1 (fun a b h => h.elim (fun h => h.x) (fun h => Or.inr h.1))).tr p2) p3 p4 (by rw [hP]; exact bnd_il p1)
          refine v_iconst dX12_isKey_305 ?_
          refine v_ireturn dX12_isKey_306 rfl (rfl) ?_
          exact hf
        · obtain ⟨-, c, j2, p1, p2, p3, p4⟩ := n4.resolve_left (fun h => zc298 h.1)
          have hf : Q (some (.int 1)) τ4 := good τ4 (kd, c, a, b) j2 ((hF1.mn (fun a b h => h.elim Or.inl (fun h => Or.inr ⟨h.1, by omega⟩))).tr (p2.mn (fun a b h => h.elim Or.inl (fun h => Or.inr ⟨h.1, by omega⟩)))) rfl p3 (by rw [p2.1 _ _ (by unfold pT; omega)]; exact e2) (by rw [p2.1 _ _ (by unfold pT; omega)]; exact e3) p4 (by rw [hP]; exact bnd_in p1)
          refine v_iconst dX12_isKey_301 ?_
          refine v_goto dX12_isKey_302 ?_
          refine v_ireturn dX12_isKey_306 rfl (rfl) ?_
          exact hf
    rcases (show kd = 0 ∨ kd = 7 ∨ kd = 6 ∨ (1 ≤ kd ∧ kd ≤ 5) by omega) with rfl | rfl | rfl | hk
    · have hPr : Pkey T R.2.1 R.2.2.2.1 R.2.2.2.2.length i = bnd (Pn T 0 (R.2.1 - 1) (skp T i + (wrd T (skp T i)).length)) (fun d => bnd (Pcost T d.2) (fun c => .inr ((0, c.1, (d.1 : Int), -1), c.2))) := by rw [hPk]; unfold Pkr; rw [hkd, if_neg (by omega), if_pos (by omega)]
      have t255 : ∀ (τ1 : Wd) (j1 d : Nat) x3, MdF (fun a b => pT a b ∨ (a = 47 ∧ 4 * n + 1 < b)) τ τ1 → τ1.1 47 (4 * n + 2) = iz (d : Int) → τ1.1 47 (4 * n + 3) = -1 → τ1.1 44 8 = nI j1 → j1 ≤ T.length → Pkey T R.2.1 R.2.2.2.1 R.2.2.2.2.length i = bnd (Pcost T j1) (fun c => .inr ((0, c.1, (d : Int), -1), c.2)) → V mX12_isKey (D + 5) 255 [some (.ref 44), some (.int (nI 0)), some (.int (nI (4 * n))), x3] [.int 1] τ1 Q := by
        intro τ1 j1 d x3 hF1 e2 e3 e8 hj1 hP
        refine v_istore_n dX12_isKey_255 (Nat.le_of_ble_eq_true rfl) rfl ?_
        refine v_iload_n dX12_isKey_256 rfl ?_
        refine v_if_eq dX12_isKey_257 (fun zc257 => ?_) (fun zc257 => ?_)
        · exact absurd zc257 (by decide)
        · refine v_iload_n dX12_isKey_260 rfl ?_
          refine v_bipush dX12_isKey_261 ?_
          refine v_icmp_ne dX12_isKey_263 (fun zc263 => ?_) (fun zc263 => ?_)
          · refine v_iconst dX12_isKey_283 ?_
            refine v_goto dX12_isKey_284 ?_
            exact t288 τ1 j1 d (-1) _ hF1 e2 (e3.trans iz_m1) e8 hj1 hP
          · exact absurd zc263 (by decide)
      refine v_iload_n dX12_isKey_211 rfl ?_
      refine v_bipush dX12_isKey_212 ?_
      refine v_icmp_ne dX12_isKey_214 (fun zc214 => ?_) (fun zc214 => ?_)
      · refine v_iload_n dX12_isKey_223 rfl ?_
        refine v_if_eq dX12_isKey_224 (fun zc224 => ?_) (fun zc224 => ?_)
        · refine v_aload_n dX12_isKey_233 rfl ?_
          refine v_iload_n dX12_isKey_234 rfl ?_
          refine v_iconst dX12_isKey_235 ?_
          refine v_iadd dX12_isKey_236 ?_
          refine v_iconst dX12_isKey_237 ?_
          refine v_aload_n dX12_isKey_238 rfl ?_
          refine v_getI dX12_isKey_239 fl_RX12_127 rfl ?_
          rw [g16]
          refine v_iconst dX12_isKey_242 ?_
          refine v_isub dX12_isKey_243 ?_
          rw [show (2 : Int32) = nI 2 from rfl, nI_add, show (1 : Int32) = nI 1 from rfl, zI_sub (by omega)]
          refine v_callV3 dX12_isKey_244 mv_RX12_124 rfl rfl (Nat.le_of_ble_eq_true rfl) ?_
          refine ok_isNext (w := 4 * n + 2) (lo := 0) (k := R.2.1 - 1) (Or.inr ⟨rfl, by omega⟩) hX1 hT g8 hwl (by omega) (by omega) (fun τ1 x1 n1 => ?_)
          show V _ _ _ _ (_ :: _) _ _
          refine v_if_eq dX12_isKey_247 (fun zc247 => ?_) (fun zc247 => ?_)
          · obtain ⟨-, f, q1, q2, q3, q4⟩ := n1.resolve_right (fun h => by rw [h.1] at zc247; exact absurd zc247 (by decide))
            have hf : Q (some (.int 0)) τ1 := fail τ1 f q2 q3 q4 (by rw [hPr]; exact bnd_il q1)
            refine v_iconst dX12_isKey_254 ?_
            first
            | exact f255 τ1 _ hf
            | exact t255 τ1 j1 d _ (q2.mn (fun a b h => h.elim Or.inl (fun h => Or.inr ⟨h.1, by omega⟩))) (by rw [q6 (by omega)]; exact iz_nI d) (by rw [q2.1 _ _ (by unfold pT; omega)]; exact g3) q3 hj1 (by rw [hPr]; exact bnd_in q1)
          · obtain ⟨-, d, j1, q1, q2, q3, q4, q5, q6⟩ := n1.resolve_left (fun h => zc247 h.1)
            have hj1 := Pn_j hwl q1
            refine v_iconst dX12_isKey_250 ?_
            refine v_goto dX12_isKey_251 ?_
            first
            | exact f255 τ1 _ hf
            | exact t255 τ1 j1 d _ (q2.mn (fun a b h => h.elim Or.inl (fun h => Or.inr ⟨h.1, by omega⟩))) (by rw [q6 (by omega)]; exact iz_nI d) (by rw [q2.1 _ _ (by unfold pT; omega)]; exact g3) q3 hj1 (by rw [hPr]; exact bnd_in q1)
        · exact absurd (show nI 0 = 0 by decide) zc224
      · exact absurd zc214 (by decide)
    · have hPr : Pkey T R.2.1 R.2.2.2.1 R.2.2.2.2.length i = bnd (Pn T 0 (R.2.1 - 1) (skp T i + (wrd T (skp T i)).length)) (fun d => bnd (Pn T 0 (R.2.1 - 1) d.2) (fun e => bnd (Pcost T e.2) (fun c => .inr ((7, c.1, (d.1 : Int), (e.1 : Int)), c.2)))) := by rw [hPk]; unfold Pkr; rw [hkd, if_neg (by omega), if_neg (by omega), if_pos (by omega)]
      have t255 : ∀ (τ1 : Wd) (j1 d : Nat) x3, MdF (fun a b => pT a b ∨ (a = 47 ∧ 4 * n + 1 < b)) τ τ1 → τ1.1 47 (4 * n + 2) = iz (d : Int) → τ1.1 44 8 = nI j1 → j1 ≤ T.length → Pkey T R.2.1 R.2.2.2.1 R.2.2.2.2.length i = bnd (Pn T 0 (R.2.1 - 1) j1) (fun e => bnd (Pcost T e.2) (fun c => .inr ((7, c.1, (d : Int), (e.1 : Int)), c.2))) → V mX12_isKey (D + 5) 255 [some (.ref 44), some (.int (nI 7)), some (.int (nI (4 * n))), x3] [.int 1] τ1 Q := by
        intro τ1 j1 d x3 hF1 e2 e8 hj1 hP
        have hX2 : RepMX τ1 T := hF1.x hX1 (by unfold pT; omega) (fun b => by unfold pT; omega)
        have g161 : τ1.1 44 16 = nI R.2.1 := by rw [hF1.1 _ _ (by unfold pT; omega)]; exact g16
        refine v_istore_n dX12_isKey_255 (Nat.le_of_ble_eq_true rfl) rfl ?_
        refine v_iload_n dX12_isKey_256 rfl ?_
        refine v_if_eq dX12_isKey_257 (fun zc257 => ?_) (fun zc257 => ?_)
        · exact absurd zc257 (by decide)
        · refine v_iload_n dX12_isKey_260 rfl ?_
          refine v_bipush dX12_isKey_261 ?_
          refine v_icmp_ne dX12_isKey_263 (fun zc263 => ?_) (fun zc263 => ?_)
          · exact absurd rfl zc263
          · refine v_aload_n dX12_isKey_266 rfl ?_
            refine v_iload_n dX12_isKey_267 rfl ?_
            refine v_iconst dX12_isKey_268 ?_
            refine v_iadd dX12_isKey_269 ?_
            refine v_iconst dX12_isKey_270 ?_
            refine v_aload_n dX12_isKey_271 rfl ?_
            refine v_getI dX12_isKey_272 fl_RX12_127 rfl ?_
            rw [g161]
            refine v_iconst dX12_isKey_275 ?_
            refine v_isub dX12_isKey_276 ?_
            rw [show (3 : Int32) = nI 3 from rfl, nI_add, show (1 : Int32) = nI 1 from rfl, zI_sub (by omega)]
            refine v_callV3 dX12_isKey_277 mv_RX12_124 rfl rfl (Nat.le_of_ble_eq_true rfl) ?_
            refine ok_isNext (w := 4 * n + 3) (lo := 0) (k := R.2.1 - 1) (Or.inr ⟨rfl, by omega⟩) hX2 hT e8 hj1 (by omega) (by omega) (fun τ2 x2 n2 => ?_)
            show V _ _ _ _ (_ :: _) _ _
            refine v_if_eq dX12_isKey_280 (fun zc280 => ?_) (fun zc280 => ?_)
            · obtain ⟨-, f, q1, q2, q3, q4⟩ := n2.resolve_right (fun h => by rw [h.1] at zc280; exact absurd zc280 (by decide))
              have hf : Q (some (.int 0)) τ2 := fail τ2 f ((MXF.of hF1 (fun a b h => h.elim (fun h => h.x) (fun h => Or.inr h.1))).tr q2) q3 q4 (by rw [hP]; exact bnd_il q1)
              refine v_iconst dX12_isKey_287 ?_
              first
              | exact f288 τ2 _ hf
              | exact t288 τ2 j2 d e _ (hF1.tr (q2.mn (fun a b h => h.elim Or.inl (fun h => Or.inr ⟨h.1, by omega⟩)))) (by rw [q2.1 _ _ (by unfold pT; omega)]; exact e2) (by rw [q6 (by omega)]; exact iz_nI e) q3 hj2 (by rw [hP]; exact bnd_in q1)
            · obtain ⟨-, e, j2, q1, q2, q3, q4, q5, q6⟩ := n2.resolve_left (fun h => zc280 h.1)
              have hj2 := Pn_j hj1 q1
              refine v_iconst dX12_isKey_283 ?_
              refine v_goto dX12_isKey_284 ?_
              first
              | exact f288 τ2 _ hf
              | exact t288 τ2 j2 d e _ (hF1.tr (q2.mn (fun a b h => h.elim Or.inl (fun h => Or.inr ⟨h.1, by omega⟩)))) (by rw [q2.1 _ _ (by unfold pT; omega)]; exact e2) (by rw [q6 (by omega)]; exact iz_nI e) q3 hj2 (by rw [hP]; exact bnd_in q1)
      refine v_iload_n dX12_isKey_211 rfl ?_
      refine v_bipush dX12_isKey_212 ?_
      refine v_icmp_ne dX12_isKey_214 (fun zc214 => ?_) (fun zc214 => ?_)
      · refine v_iload_n dX12_isKey_223 rfl ?_
        refine v_if_eq dX12_isKey_224 (fun zc224 => ?_) (fun zc224 => ?_)
        · exact absurd zc224 (by decide)
        · refine v_iload_n dX12_isKey_227 rfl ?_
          refine v_bipush dX12_isKey_228 ?_
          refine v_icmp_ne dX12_isKey_230 (fun zc230 => ?_) (fun zc230 => ?_)
          · exact absurd rfl zc230
          · refine v_aload_n dX12_isKey_233 rfl ?_
            refine v_iload_n dX12_isKey_234 rfl ?_
            refine v_iconst dX12_isKey_235 ?_
            refine v_iadd dX12_isKey_236 ?_
            refine v_iconst dX12_isKey_237 ?_
            refine v_aload_n dX12_isKey_238 rfl ?_
            refine v_getI dX12_isKey_239 fl_RX12_127 rfl ?_
            rw [g16]
            refine v_iconst dX12_isKey_242 ?_
            refine v_isub dX12_isKey_243 ?_
            rw [show (2 : Int32) = nI 2 from rfl, nI_add, show (1 : Int32) = nI 1 from rfl, zI_sub (by omega)]
            refine v_callV3 dX12_isKey_244 mv_RX12_124 rfl rfl (Nat.le_of_ble_eq_true rfl) ?_
            refine ok_isNext (w := 4 * n + 2) (lo := 0) (k := R.2.1 - 1) (Or.inr ⟨rfl, by omega⟩) hX1 hT g8 hwl (by omega) (by omega) (fun τ1 x1 n1 => ?_)
            show V _ _ _ _ (_ :: _) _ _
            refine v_if_eq dX12_isKey_247 (fun zc247 => ?_) (fun zc247 => ?_)
            · obtain ⟨-, f, q1, q2, q3, q4⟩ := n1.resolve_right (fun h => by rw [h.1] at zc247; exact absurd zc247 (by decide))
              have hf : Q (some (.int 0)) τ1 := fail τ1 f q2 q3 q4 (by rw [hPr]; exact bnd_il q1)
              refine v_iconst dX12_isKey_254 ?_
              first
              | exact f255 τ1 _ hf
              | exact t255 τ1 j1 d _ (q2.mn (fun a b h => h.elim Or.inl (fun h => Or.inr ⟨h.1, by omega⟩))) (by rw [q6 (by omega)]; exact iz_nI d) q3 hj1 (by rw [hPr]; exact bnd_in q1)
            · obtain ⟨-, d, j1, q1, q2, q3, q4, q5, q6⟩ := n1.resolve_left (fun h => zc247 h.1)
              have hj1 := Pn_j hwl q1
              refine v_iconst dX12_isKey_250 ?_
              refine v_goto dX12_isKey_251 ?_
              first
              | exact f255 τ1 _ hf
              | exact t255 τ1 j1 d _ (q2.mn (fun a b h => h.elim Or.inl (fun h => Or.inr ⟨h.1, by omega⟩))) (by rw [q6 (by omega)]; exact iz_nI d) q3 hj1 (by rw [hPr]; exact bnd_in q1)
      · exact absurd zc214 (by decide)
    · have hPr : Pkey T R.2.1 R.2.2.2.1 R.2.2.2.2.length i = Pnow T R.2.2.2.1 (skp T i + (wrd T (skp T i)).length) := by rw [hPk]; unfold Pkr; rw [hkd, if_pos (by omega)]
      refine v_iload_n dX12_isKey_211 rfl ?_
      refine v_bipush dX12_isKey_212 ?_
      refine v_icmp_ne dX12_isKey_214 (fun zc214 => ?_) (fun zc214 => ?_)
      · exact absurd rfl zc214
      · refine v_aload_n dX12_isKey_217 rfl ?_
        refine v_iload_n dX12_isKey_218 rfl ?_
        refine v_callV1 dX12_isKey_219 mv_RX12_164 rfl rfl (Nat.le_of_ble_eq_true rfl) ?_
        refine ok_isNow (w := 4 * n) (by omega) (by omega) b4 g18 hX1 hT g8 hwl (fun τ1 x1 n1 => ?_)
        show V _ _ _ _ (_ :: _) _ _
        refine v_ireturn dX12_isKey_222 rfl (by rcases n1 with h | h <;> rw [h.1] <;> rfl) ?_
        rcases n1 with ⟨hx, f, q1, q2, q3, q4⟩ | ⟨hx, k, j1, q1, q2, q3, q4, q5, q6, q7⟩
        · rw [hx]
          exact fail τ1 f q2 q3 q4 (by rw [hPr]; exact q1)
        · rw [hx]
          exact good τ1 k j1 (q2.mn (fun a b h => h.elim Or.inl (fun h => Or.inr ⟨h.1, by omega⟩))) q3 q4 q5 q6 q7 (by rw [hPr]; exact q1)
    · have hPr : Pkey T R.2.1 R.2.2.2.1 R.2.2.2.2.length i = bnd (Pcost T (skp T i + (wrd T (skp T i)).length)) (fun c => .inr ((kd, c.1, -1, -1), c.2)) := by rw [hPk]; unfold Pkr; rw [hkd, if_neg (by omega), if_neg (by omega), if_neg (by omega)]; rfl
      have t255 : ∀ x3, V mX12_isKey (D + 5) 255 [some (.ref 44), some (.int (nI kd)), some (.int (nI (4 * n))), x3] [.int 1] τ Q := by
        intro x3
        refine v_istore_n dX12_isKey_255 (Nat.le_of_ble_eq_true rfl) rfl ?_
        refine v_iload_n dX12_isKey_256 rfl ?_
        refine v_if_eq dX12_isKey_257 (fun zc257 => ?_) (fun zc257 => ?_)
        · exact absurd zc257 (by decide)
        · refine v_iload_n dX12_isKey_260 rfl ?_
          refine v_bipush dX12_isKey_261 ?_
          refine v_icmp_ne dX12_isKey_263 (fun zc263 => ?_) (fun zc263 => ?_)
          · refine v_iconst dX12_isKey_283 ?_
            refine v_goto dX12_isKey_284 ?_
            exact t288 τ _ (-1) (-1) _ MdF.rf (g2.trans iz_m1) (g3.trans iz_m1) g8 hwl hPr
          · exact absurd ((nI_eq (b := 7) (by omega) (by omega)).mp zc263) (by omega)
      refine v_iload_n dX12_isKey_211 rfl ?_
      refine v_bipush dX12_isKey_212 ?_
      refine v_icmp_ne dX12_isKey_214 (fun zc214 => ?_) (fun zc214 => ?_)
      · refine v_iload_n dX12_isKey_223 rfl ?_
        refine v_if_eq dX12_isKey_224 (fun zc224 => ?_) (fun zc224 => ?_)
        · exact absurd ((nI_eq (b := 0) (by omega) (by omega)).mp zc224) (by omega)
        · refine v_iload_n dX12_isKey_227 rfl ?_
          refine v_bipush dX12_isKey_228 ?_
          refine v_icmp_ne dX12_isKey_230 (fun zc230 => ?_) (fun zc230 => ?_)
          · refine v_iconst dX12_isKey_250 ?_
            refine v_goto dX12_isKey_251 ?_
            exact t255 _
          · exact absurd ((nI_eq (b := 7) (by omega) (by omega)).mp zc230) (by omega)
      · exact absurd ((nI_eq (b := 6) (by omega) (by omega)).mp zc214) (by omega)
  have k126 : V mX12_isKey (D + 5) 126 [some (.ref 44), some (.int (iz (kdW (wrd T (skp T i))))), none, none] [] σ Q := by
    refine v_aload_n dX12_isKey_126 rfl ?_
    refine v_getJ dX12_isKey_127 fl_RX12_93 rfl ?_
    rw [h10]
    refine v_ldc2 dX12_isKey_130 cn_RX12_159 ?_
    refine v_lcmp dX12_isKey_133 ?_
    refine v_if_ne dX12_isKey_134 (fun zc134 => ?_) (fun zc134 => ?_)
    · rw [lg_eq, show (85332 : Int64) = lN (fo27 (wd 0)) from rfl, tk_w (by decide)] at zc134
      refine v_iload_n dX12_isKey_143 rfl ?_
      refine v_iconst dX12_isKey_144 ?_
      refine v_icmp_ne dX12_isKey_145 (fun zc145 => ?_) (fun zc145 => ?_)
      · rw [show (-1 : Int32) = iz (-1) from rfl, iz_eq (by omega) (by omega) (by omega) (by omega)] at zc145
        refine v_aload_n dX12_isKey_154 rfl ?_
        refine v_getI dX12_isKey_155 fl_RX12_161 rfl ?_
        rw [r19]
        refine v_bipush dX12_isKey_158 ?_
        rw [show (8 : Int32) = nI 8 from rfl]
        refine v_icmp_ne dX12_isKey_160 (fun zc160 => ?_) (fun zc160 => ?_)
        · rw [nI_eq (by omega) (by omega)] at zc160
          refine v_iconst dX12_isKey_169 ?_
          refine v_aload_n dX12_isKey_170 rfl ?_
          refine v_getI dX12_isKey_171 fl_RX12_161 rfl ?_
          rw [r19]
          refine v_imul dX12_isKey_174 ?_
          rw [show (4 : Int32) = nI 4 from rfl, pk_mul]
          refine v_istore_n dX12_isKey_175 (Nat.le_of_ble_eq_true rfl) rfl ?_
          refine v_aload_n dX12_isKey_176 rfl ?_
          refine v_dup dX12_isKey_177 rfl ?_
          refine v_getI dX12_isKey_178 fl_RX12_161 rfl ?_
          rw [r19]
          refine v_iconst dX12_isKey_181 ?_
          refine v_iadd dX12_isKey_182 ?_
          rw [nI_1]
          refine v_putI dX12_isKey_183 fp_RX12_161 rfl ?_
          refine v_aload_n dX12_isKey_186 rfl ?_
          refine v_getR (q := 47) dX12_isKey_187 fl_RX12_23 rfl rfl ?_
          refine v_iload_n dX12_isKey_190 rfl ?_
          refine v_iload_n dX12_isKey_191 rfl ?_
          refine v_iastore dX12_isKey_192 rfl (by exact vp_in_nI (by omega) (by omega)) ?_
          rw [nI_clamp (by omega)]
          refine v_aload_n dX12_isKey_193 rfl ?_
          refine v_getR (q := 47) dX12_isKey_194 fl_RX12_23 rfl rfl ?_
          refine v_iload_n dX12_isKey_197 rfl ?_
          refine v_iconst dX12_isKey_198 ?_
          refine v_iadd dX12_isKey_199 ?_
          refine v_iconst dX12_isKey_200 ?_
          rw [show (2 : Int32) = nI 2 from rfl, nI_add]
          refine v_iastore dX12_isKey_201 rfl (by exact vp_in_nI (by omega) (by omega)) ?_
          rw [nI_clamp (by omega)]
          refine v_aload_n dX12_isKey_202 rfl ?_
          refine v_getR (q := 47) dX12_isKey_203 fl_RX12_23 rfl rfl ?_
          refine v_iload_n dX12_isKey_206 rfl ?_
          refine v_iconst dX12_isKey_207 ?_
          refine v_iadd dX12_isKey_208 ?_
          refine v_iconst dX12_isKey_209 ?_
          rw [show (3 : Int32) = nI 3 from rfl, nI_add]
          refine v_iastore dX12_isKey_210 rfl (by exact vp_in_nI (by omega) (by omega)) ?_
          rw [nI_clamp (by omega)]
          rw [iz_toN (show 0 ≤ kdW (wrd T (skp T i)) by omega)]
          exact k211 (kdW (wrd T (skp T i))).toNat R.2.2.2.2.length _ (by omega) rfl (by omega) zc134 rfl
        · rw [nI_eq (by omega) (by omega)] at zc160
          refine v_aload_n dX12_isKey_163 rfl ?_
          refine v_iconst dX12_isKey_164 ?_
          refine v_callV1 dX12_isKey_165 mv_RX12_113 rfl rfl (Nat.le_of_ble_eq_true rfl) ?_
          refine ok_fails h9 ?_
          show V _ _ _ _ (_ :: _) _ _
          refine v_ireturn dX12_isKey_168 rfl (rfl) ?_
          exact bad 3 (by unfold Pkey; rw [if_neg zc134, if_neg zc145, if_pos (by omega)])
      · rw [show (-1 : Int32) = iz (-1) from rfl, iz_eq (by omega) (by omega) (by omega) (by omega)] at zc145
        refine v_aload_n dX12_isKey_148 rfl ?_
        refine v_iconst dX12_isKey_149 ?_
        refine v_callV1 dX12_isKey_150 mv_RX12_113 rfl rfl (Nat.le_of_ble_eq_true rfl) ?_
        refine ok_fails h9 ?_
        show V _ _ _ _ (_ :: _) _ _
        refine v_ireturn dX12_isKey_153 rfl (rfl) ?_
        exact bad 1 (by unfold Pkey; rw [if_neg zc134, if_pos zc145])
    · rw [lg_eq, show (85332 : Int64) = lN (fo27 (wd 0)) from rfl, tk_w (by decide)] at zc134
      refine v_aload_n dX12_isKey_137 rfl ?_
      refine v_iconst dX12_isKey_138 ?_
      refine v_callV1 dX12_isKey_139 mv_RX12_113 rfl rfl (Nat.le_of_ble_eq_true rfl) ?_
      refine ok_fails h9 ?_
      show V _ _ _ _ (_ :: _) _ _
      refine v_ireturn dX12_isKey_142 rfl (rfl) ?_
      exact bad 3 (by unfold Pkey; rw [if_pos zc134])
  have k76 : V mX12_isKey (D + 5) 76 [some (.ref 44), none, none, none] [.int (iz (kd1 (wrd T (skp T i))))] σ Q := by
    have ha := kdW_alt (wrd T (skp T i))
    refine v_istore_n dX12_isKey_76 (Nat.le_of_ble_eq_true rfl) rfl ?_
    refine v_aload_n dX12_isKey_77 rfl ?_
    refine v_getJ dX12_isKey_78 fl_RX12_93 rfl ?_
    rw [h10]
    refine v_ldc2 dX12_isKey_81 cn_RX12_153 ?_
    refine v_lcmp dX12_isKey_84 ?_
    refine v_if_ne dX12_isKey_85 (fun zc85 => ?_) (fun zc85 => ?_)
    · rw [lg_eq, show (1834209 : Int64) = lN (fo27 (wd 8)) from rfl, tk_w (by decide)] at zc85
      refine v_aload_n dX12_isKey_92 rfl ?_
      refine v_getJ dX12_isKey_93 fl_RX12_93 rfl ?_
      rw [h10]
      refine v_ldc2 dX12_isKey_96 cn_RX12_155 ?_
      refine v_lcmp dX12_isKey_99 ?_
      refine v_if_ne dX12_isKey_100 (fun zc100 => ?_) (fun zc100 => ?_)
      · rw [lg_eq, show (10634 : Int64) = lN (fo27 (wd 9)) from rfl, tk_w (by decide)] at zc100
        refine v_aload_n dX12_isKey_108 rfl ?_
        refine v_getJ dX12_isKey_109 fl_RX12_93 rfl ?_
        rw [h10]
        refine v_ldc2 dX12_isKey_112 cn_RX12_157 ?_
        refine v_lcmp dX12_isKey_115 ?_
        refine v_if_ne dX12_isKey_116 (fun zc116 => ?_) (fun zc116 => ?_)
        · rw [lg_eq, show (10506440 : Int64) = lN (fo27 (wd 10)) from rfl, tk_w (by decide)] at zc116
          refine v_iload_n dX12_isKey_124 rfl ?_
          refine v_istore_n dX12_isKey_125 (Nat.le_of_ble_eq_true rfl) rfl ?_
          first
          | (rw [if_pos zc85] at ha; rw [ha] at k126; exact k126)
          | (rw [if_neg zc85, if_pos zc100] at ha; rw [ha] at k126; exact k126)
          | (rw [if_neg zc85, if_neg zc100, if_pos zc116] at ha; rw [ha] at k126; exact k126)
          | (rw [if_neg zc85, if_neg zc100, if_neg zc116] at ha; rw [ha] at k126; exact k126)
        · rw [lg_eq, show (10506440 : Int64) = lN (fo27 (wd 10)) from rfl, tk_w (by decide)] at zc116
          refine v_bipush dX12_isKey_119 ?_
          refine v_goto dX12_isKey_121 ?_
          refine v_istore_n dX12_isKey_125 (Nat.le_of_ble_eq_true rfl) rfl ?_
          first
          | (rw [if_pos zc85] at ha; rw [ha] at k126; exact k126)
          | (rw [if_neg zc85, if_pos zc100] at ha; rw [ha] at k126; exact k126)
          | (rw [if_neg zc85, if_neg zc100, if_pos zc116] at ha; rw [ha] at k126; exact k126)
          | (rw [if_neg zc85, if_neg zc100, if_neg zc116] at ha; rw [ha] at k126; exact k126)
      · rw [lg_eq, show (10634 : Int64) = lN (fo27 (wd 9)) from rfl, tk_w (by decide)] at zc100
        refine v_bipush dX12_isKey_103 ?_
        refine v_goto dX12_isKey_105 ?_
        refine v_istore_n dX12_isKey_125 (Nat.le_of_ble_eq_true rfl) rfl ?_
        first
        | (rw [if_pos zc85] at ha; rw [ha] at k126; exact k126)
        | (rw [if_neg zc85, if_pos zc100] at ha; rw [ha] at k126; exact k126)
        | (rw [if_neg zc85, if_neg zc100, if_pos zc116] at ha; rw [ha] at k126; exact k126)
        | (rw [if_neg zc85, if_neg zc100, if_neg zc116] at ha; rw [ha] at k126; exact k126)
    · rw [lg_eq, show (1834209 : Int64) = lN (fo27 (wd 8)) from rfl, tk_w (by decide)] at zc85
      refine v_iconst dX12_isKey_88 ?_
      refine v_goto dX12_isKey_89 ?_
      refine v_istore_n dX12_isKey_125 (Nat.le_of_ble_eq_true rfl) rfl ?_
      first
      | (rw [if_pos zc85] at ha; rw [ha] at k126; exact k126)
      | (rw [if_neg zc85, if_pos zc100] at ha; rw [ha] at k126; exact k126)
      | (rw [if_neg zc85, if_neg zc100, if_pos zc116] at ha; rw [ha] at k126; exact k126)
      | (rw [if_neg zc85, if_neg zc100, if_neg zc116] at ha; rw [ha] at k126; exact k126)
  refine ok_enter rfl (Nat.le_of_ble_eq_true rfl) ?_
  unfold kd1 at k76
  refine v_aload_n dX12_isKey_0 rfl ?_
  refine v_getJ dX12_isKey_1 fl_RX12_93 rfl ?_
  rw [h10]
  refine v_ldc2 dX12_isKey_4 cn_RX12_149 ?_
  refine v_lcmp dX12_isKey_7 ?_
  refine v_if_ne dX12_isKey_8 (fun zc8 => ?_) (fun zc8 => ?_)
  · rw [lg_eq, show (91029992 : Int64) = lN (fo27 (wd 3)) from rfl, tk_w (by decide)] at zc8
    refine v_aload_n dX12_isKey_15 rfl ?_
    refine v_getJ dX12_isKey_16 fl_RX12_93 rfl ?_
    rw [h10]
    refine v_ldc2 dX12_isKey_19 cn_RX12_140 ?_
    refine v_lcmp dX12_isKey_22 ?_
    refine v_if_ne dX12_isKey_23 (fun zc23 => ?_) (fun zc23 => ?_)
    · rw [lg_eq, show (324262 : Int64) = lN (fo27 (wd 4)) from rfl, tk_w (by decide)] at zc23
      refine v_aload_n dX12_isKey_30 rfl ?_
      refine v_getJ dX12_isKey_31 fl_RX12_93 rfl ?_
      rw [h10]
      refine v_ldc2 dX12_isKey_34 cn_RX12_142 ?_
      refine v_lcmp dX12_isKey_37 ?_
      refine v_if_ne dX12_isKey_38 (fun zc38 => ?_) (fun zc38 => ?_)
      · rw [lg_eq, show (240373 : Int64) = lN (fo27 (wd 5)) from rfl, tk_w (by decide)] at zc38
        refine v_aload_n dX12_isKey_45 rfl ?_
        refine v_getJ dX12_isKey_46 fl_RX12_93 rfl ?_
        rw [h10]
        refine v_ldc2 dX12_isKey_49 cn_RX12_144 ?_
        refine v_lcmp dX12_isKey_52 ?_
        refine v_if_ne dX12_isKey_53 (fun zc53 => ?_) (fun zc53 => ?_)
        · rw [lg_eq, show (10815598 : Int64) = lN (fo27 (wd 6)) from rfl, tk_w (by decide)] at zc53
          refine v_aload_n dX12_isKey_60 rfl ?_
          refine v_getJ dX12_isKey_61 fl_RX12_93 rfl ?_
          rw [h10]
          refine v_ldc2 dX12_isKey_64 cn_RX12_151 ?_
          refine v_lcmp dX12_isKey_67 ?_
          refine v_if_ne dX12_isKey_68 (fun zc68 => ?_) (fun zc68 => ?_)
          · rw [lg_eq, show (262 : Int64) = lN (fo27 (wd 7)) from rfl, tk_w (by decide)] at zc68
            refine v_iconst dX12_isKey_75 ?_
            first
            | (rw [if_pos zc8] at k76; exact k76)
            | (rw [if_neg zc8, if_pos zc23] at k76; exact k76)
            | (rw [if_neg zc8, if_neg zc23, if_pos zc38] at k76; exact k76)
            | (rw [if_neg zc8, if_neg zc23, if_neg zc38, if_pos zc53] at k76; exact k76)
            | (rw [if_neg zc8, if_neg zc23, if_neg zc38, if_neg zc53, if_pos zc68] at k76; exact k76)
            | (rw [if_neg zc8, if_neg zc23, if_neg zc38, if_neg zc53, if_neg zc68] at k76; exact k76)
          · rw [lg_eq, show (262 : Int64) = lN (fo27 (wd 7)) from rfl, tk_w (by decide)] at zc68
            refine v_iconst dX12_isKey_71 ?_
            refine v_goto dX12_isKey_72 ?_
            first
            | (rw [if_pos zc8] at k76; exact k76)
            | (rw [if_neg zc8, if_pos zc23] at k76; exact k76)
            | (rw [if_neg zc8, if_neg zc23, if_pos zc38] at k76; exact k76)
            | (rw [if_neg zc8, if_neg zc23, if_neg zc38, if_pos zc53] at k76; exact k76)
            | (rw [if_neg zc8, if_neg zc23, if_neg zc38, if_neg zc53, if_pos zc68] at k76; exact k76)
            | (rw [if_neg zc8, if_neg zc23, if_neg zc38, if_neg zc53, if_neg zc68] at k76; exact k76)
        · rw [lg_eq, show (10815598 : Int64) = lN (fo27 (wd 6)) from rfl, tk_w (by decide)] at zc53
          refine v_iconst dX12_isKey_56 ?_
          refine v_goto dX12_isKey_57 ?_
          first
          | (rw [if_pos zc8] at k76; exact k76)
          | (rw [if_neg zc8, if_pos zc23] at k76; exact k76)
          | (rw [if_neg zc8, if_neg zc23, if_pos zc38] at k76; exact k76)
          | (rw [if_neg zc8, if_neg zc23, if_neg zc38, if_pos zc53] at k76; exact k76)
          | (rw [if_neg zc8, if_neg zc23, if_neg zc38, if_neg zc53, if_pos zc68] at k76; exact k76)
          | (rw [if_neg zc8, if_neg zc23, if_neg zc38, if_neg zc53, if_neg zc68] at k76; exact k76)
      · rw [lg_eq, show (240373 : Int64) = lN (fo27 (wd 5)) from rfl, tk_w (by decide)] at zc38
        refine v_iconst dX12_isKey_41 ?_
        refine v_goto dX12_isKey_42 ?_
        first
        | (rw [if_pos zc8] at k76; exact k76)
        | (rw [if_neg zc8, if_pos zc23] at k76; exact k76)
        | (rw [if_neg zc8, if_neg zc23, if_pos zc38] at k76; exact k76)
        | (rw [if_neg zc8, if_neg zc23, if_neg zc38, if_pos zc53] at k76; exact k76)
        | (rw [if_neg zc8, if_neg zc23, if_neg zc38, if_neg zc53, if_pos zc68] at k76; exact k76)
        | (rw [if_neg zc8, if_neg zc23, if_neg zc38, if_neg zc53, if_neg zc68] at k76; exact k76)
    · rw [lg_eq, show (324262 : Int64) = lN (fo27 (wd 4)) from rfl, tk_w (by decide)] at zc23
      refine v_iconst dX12_isKey_26 ?_
      refine v_goto dX12_isKey_27 ?_
      first
      | (rw [if_pos zc8] at k76; exact k76)
      | (rw [if_neg zc8, if_pos zc23] at k76; exact k76)
      | (rw [if_neg zc8, if_neg zc23, if_pos zc38] at k76; exact k76)
      | (rw [if_neg zc8, if_neg zc23, if_neg zc38, if_pos zc53] at k76; exact k76)
      | (rw [if_neg zc8, if_neg zc23, if_neg zc38, if_neg zc53, if_pos zc68] at k76; exact k76)
      | (rw [if_neg zc8, if_neg zc23, if_neg zc38, if_neg zc53, if_neg zc68] at k76; exact k76)
  · rw [lg_eq, show (91029992 : Int64) = lN (fo27 (wd 3)) from rfl, tk_w (by decide)] at zc8
    refine v_iconst dX12_isKey_11 ?_
    refine v_goto dX12_isKey_12 ?_
    first
    | (rw [if_pos zc8] at k76; exact k76)
    | (rw [if_neg zc8, if_pos zc23] at k76; exact k76)
    | (rw [if_neg zc8, if_neg zc23, if_pos zc38] at k76; exact k76)
    | (rw [if_neg zc8, if_neg zc23, if_neg zc38, if_pos zc53] at k76; exact k76)
    | (rw [if_neg zc8, if_neg zc23, if_neg zc38, if_neg zc53, if_pos zc68] at k76; exact k76)
    | (rw [if_neg zc8, if_neg zc23, if_neg zc38, if_neg zc53, if_neg zc68] at k76; exact k76)
end MR2
