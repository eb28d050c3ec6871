/-! ===== the reference's text: numbers, ends, dial ===== -/
def MdF (P : Nat → Nat → Prop) (σ τ : Wd) : Prop := (∀ a b, ¬ P a b → τ.1 a b = σ.1 a b) ∧ (∀ a b, ¬ (a = 44 ∧ b = 10) → τ.2.1 a b = σ.2.1 a b) ∧ τ.2.2 = σ.2.2
def MXF (σ τ : Wd) : Prop := MdF (fun a b => (a = 44 ∧ 8 ≤ b ∧ b ≤ 19) ∨ a = 47) σ τ
def pT (a b : Nat) : Prop := a = 44 ∧ (b = 8 ∨ b = 9 ∨ b = 11 ∨ b = 12)
def NxP (σ τ : Wd) (T : List Nat) (lo hi i w : Nat) (x : Int32) : Prop := (x = 0 ∧ ∃ f, Pn T lo hi i = .inl f ∧ MXF σ τ ∧ τ.1 44 13 = nI f.2 ∧ τ.1 44 14 = nI f.1) ∨ (x = 1 ∧ ∃ v j, Pn T lo hi i = .inr (v, j) ∧ MdF (fun a b => pT a b ∨ (a = 47 ∧ b = w ∧ w < 32)) σ τ ∧ τ.1 44 8 = nI j ∧ τ.1 44 9 = nI (skp T i) ∧ τ.1 44 12 = nI v ∧ (w < 32 → τ.1 47 w = nI v))
def EnP (σ τ : Wd) (T : List Nat) (i : Nat) (x : Int32) : Prop := (x = 0 ∧ ∃ f, Pe T i = .inl f ∧ MXF σ τ ∧ τ.1 44 13 = nI f.2 ∧ τ.1 44 14 = nI f.1) ∨ (x = 1 ∧ ∃ j, Pe T i = .inr j ∧ MdF pT σ τ ∧ τ.1 44 8 = nI j)
def satN (b : Nat) : Nat → Nat
  | 0 => 1
  | k + 1 => if 100 < satN b k * b then 1000 else satN b k * b
section MR1
variable {D : Nat} {σ τ : Wd} {Q : Option Value → Wd → Prop} {T : List Nat} {i p n k lo hi j w : Nat} {R : Rk} {kd : Int}
theorem MdF.rf {P : Nat → Nat → Prop} : MdF P σ σ := ⟨fun _ _ _ => rfl, fun _ _ _ => rfl, rfl⟩
theorem MdF.tr {P : Nat → Nat → Prop} {a b c : Wd} (h1 : MdF P a b) (h2 : MdF P b c) : MdF P a c := ⟨fun x y h => by rw [h2.1 x y h, h1.1 x y h], fun x y h => by rw [h2.2.1 x y h, h1.2.1 x y h], by rw [h2.2.2, h1.2.2]⟩
theorem MdF.mn {P P' : Nat → Nat → Prop} {a b : Wd} (h1 : MdF P a b) (h : ∀ x y, P x y → P' x y) : MdF P' a b := ⟨fun x y hh => h1.1 x y (fun hp => hh (h x y hp)), h1.2.1, h1.2.2⟩
theorem MdF.set {P : Nat → Nat → Prop} {a b : Wd} {k i : Nat} {x : Int32} (h1 : MdF P a b) (h : P k i) : MdF P a (setI b k i x) := ⟨fun u v hh => by rw [setI_ne (fun e => hh (by rw [e.1, e.2]; exact h))]; exact h1.1 u v hh, h1.2.1, h1.2.2⟩
theorem NtF.md (h : NtF σ τ) : MdF pT σ τ := h
theorem pT.x {a b : Nat} (h : pT a b) : (a = 44 ∧ 8 ≤ b ∧ b ≤ 19) ∨ a = 47 := by unfold pT at h; omega
theorem MdF.x {P : Nat → Nat → Prop} (h : MdF P σ τ) (hX : RepMX σ T) (h1 : ¬ P 44 6) (h2 : ∀ b, ¬ P 46 b) : RepMX τ T := ⟨by rw [h.1 _ _ h1]; exact hX.1, fun j c hj => by rw [h.1 _ _ (h2 j)]; exact hX.2 j c hj⟩
theorem MXF.x (h : MXF σ τ) (hX : RepMX σ T) : RepMX τ T := MdF.x h hX (by omega) (fun b => by omega)
theorem MXF.of {P : Nat → Nat → Prop} (h : MdF P σ τ) (hP : ∀ a b, P a b → (a = 44 ∧ 8 ≤ b ∧ b ≤ 19) ∨ a = 47) : MXF σ τ := h.mn hP
theorem MXF.tr {a b c : Wd} (h1 : MXF a b) (h2 : MXF b c) : MXF a c := MdF.tr h1 h2
theorem ok_fails {z : Int32} (h9 : σ.1 44 9 = nI p) (hQ : Q (some (.int 0)) (setI (setI σ 44 13 (nI p)) 44 14 z)) : Ok D mX12_fails [.ref 44, .int z] σ Q := by
  refine ok_enter rfl (Nat.le_of_ble_eq_true rfl) ?_
  refine v_aload_n dX12_fails_0 rfl ?_
  refine v_aload_n dX12_fails_1 rfl ?_
  refine v_getI dX12_fails_2 fl_RX12_82 rfl ?_
  rw [h9]
  refine v_putI dX12_fails_5 fp_RX12_20 rfl ?_
  refine v_aload_n dX12_fails_8 rfl ?_
  refine v_iload_n dX12_fails_9 rfl ?_
  refine v_putI dX12_fails_10 fp_RX12_107 rfl ?_
  refine v_iconst dX12_fails_13 ?_
  refine v_ireturn dX12_fails_14 rfl (rfl) ?_
  exact hQ
theorem ok_isNext {wh : Int32} (hw : (wh = -1 ∧ w = 99) ∨ (wh = nI w ∧ w < 32)) (hX : RepMX σ T) (hT : vT T) (h8 : σ.1 44 8 = nI i) (hi : i ≤ T.length) (hlo : lo < 1000) (hhi : k < 1000) (hQ : ∀ τ x, NxP σ τ T lo k i w x → Q (some (.int x)) τ) : Ok (D + 2) mX12_isNext [.ref 44, .int wh, .int (nI lo), .int (nI k)] σ Q := by
  have hl := hT.1
  have hp : skp T i ≤ T.length := spn_le hi
  have hn1 : skp T i ≤ spn isDi T (skp T i) := spn_ge
  have hn2 : spn isDi T (skp T i) ≤ T.length := spn_le hp
  have hv : nmb T (skp T i) < 1000000 := nv_lt hT
  refine ok_enter rfl (Nat.le_of_ble_eq_true rfl) ?_
  refine v_aload_n dX12_isNext_0 rfl ?_
  refine v_callV0 dX12_isNext_1 mv_RX12_110 rfl rfl (Nat.le_of_ble_eq_true rfl) ?_
  refine ok_next hX hT h8 hi (fun τ1 a1 a2 a3 a4 a5 => ?_)
  have hF1 : MXF σ τ1 := MXF.of a1.md (fun a b h => h.x)
  show V _ _ _ _ _ _ _
  refine v_aload_n dX12_isNext_4 rfl ?_
  refine v_getJ dX12_isNext_5 fl_RX12_93 rfl ?_
  rw [a3]
  refine v_ldc2 dX12_isNext_8 cn_RX12_103 ?_
  refine v_lcmp dX12_isNext_11 ?_
  refine v_if_eq dX12_isNext_12 (fun zc12 => ?_) (fun zc12 => ?_)
  · rw [lg_eq, tk_m1] at zc12
    obtain ⟨a6, a7⟩ := a5 zc12
    refine v_aload_n dX12_isNext_21 rfl ?_
    refine v_getI dX12_isNext_22 fl_RX12_85 rfl ?_
    rw [a6]
    refine v_iconst dX12_isNext_25 ?_
    rw [show (3 : Int32) = nI 3 from rfl]
    refine v_icmp_gt dX12_isNext_26 (fun zc26 => ?_) (fun zc26 => ?_)
    · rw [nI_ltI (by omega) (by omega)] at zc26
      refine v_aload_n dX12_isNext_41 rfl ?_
      refine v_iconst dX12_isNext_42 ?_
      refine v_callV1 dX12_isNext_43 mv_RX12_113 rfl rfl (Nat.le_of_ble_eq_true rfl) ?_
      refine ok_fails a2 ?_
      show V _ _ _ _ (_ :: _) _ _
      refine v_ireturn dX12_isNext_46 rfl (rfl) ?_
      exact hQ _ _ (Or.inl ⟨rfl, (2, skp T i), by unfold Pn; rw [if_neg zc12, if_pos (by omega)], MdF.set (MdF.set hF1 (Or.inl (by omega))) (Or.inl (by omega)), by rw [setI_ne (by omega), setI_same], by rw [setI_same]; rfl⟩)
    · rw [nI_ltI (by omega) (by omega)] at zc26
      refine v_aload_n dX12_isNext_29 rfl ?_
      refine v_getI dX12_isNext_30 fl_RX12_88 rfl ?_
      rw [a7]
      refine v_iload_n dX12_isNext_33 rfl ?_
      refine v_iload_n dX12_isNext_34 rfl ?_
      refine v_callS3 dX12_isNext_35 ms_RX12_68 (Nat.le_of_ble_eq_true rfl) ?_
      refine ok_in ?_
      rw [nI_toInt (by omega), nI_toInt (by omega), nI_toInt (by omega)]
      show V _ _ _ _ (_ :: _) _ _
      refine v_if_ne dX12_isNext_38 (fun zc38 => ?_) (fun zc38 => ?_)
      · have hz := if10 zc38
        refine v_iload_n dX12_isNext_47 rfl ?_
        refine v_if_lt dX12_isNext_48 (fun zc48 => ?_) (fun zc48 => ?_)
        · have hwn : wh = -1 ∧ w = 99 := hw.resolve_right (fun h => by rw [h.1] at zc48; exact nI_pos (by omega) zc48)
          refine v_iconst dX12_isNext_61 ?_
          refine v_ireturn dX12_isNext_62 rfl (rfl) ?_
          have hPn : Pn T lo k i = .inr (nmb T (skp T i), spn isDi T (skp T i)) := by unfold Pn; rw [if_neg zc12, if_neg (by omega)]
          rw [nxt_d zc12] at a4
          first
          | exact hQ _ _ (Or.inr ⟨rfl, _, _, hPn, (a1.md.mn (fun a b h => Or.inl h)).set (Or.inr ⟨rfl, rfl, hww.2⟩), by rw [setI_ne (by omega)]; exact a4, by rw [setI_ne (by omega)]; exact a2, by rw [setI_ne (by omega)]; exact a7, fun _ => setI_same⟩)
          | exact hQ _ _ (Or.inr ⟨rfl, _, _, hPn, a1.md.mn (fun a b h => Or.inl h), a4, a2, a7, fun h => by omega⟩)
        · have hww : wh = nI w ∧ w < 32 := hw.resolve_left (fun h => by rw [h.1] at zc48; exact zc48 (by decide))
          have hwe := hww.1
          subst hwe
          refine v_aload_n dX12_isNext_51 rfl ?_
          refine v_getR (q := 47) dX12_isNext_52 fl_RX12_23 rfl rfl ?_
          refine v_iload_n dX12_isNext_55 rfl ?_
          refine v_aload_n dX12_isNext_56 rfl ?_
          refine v_getI dX12_isNext_57 fl_RX12_88 rfl ?_
          rw [a7]
          refine v_iastore dX12_isNext_60 rfl (by exact vp_in_nI hww.2 (by omega)) ?_
          rw [nI_clamp (by omega)]
          refine v_iconst dX12_isNext_61 ?_
          refine v_ireturn dX12_isNext_62 rfl (rfl) ?_
          have hPn : Pn T lo k i = .inr (nmb T (skp T i), spn isDi T (skp T i)) := by unfold Pn; rw [if_neg zc12, if_neg (by omega)]
          rw [nxt_d zc12] at a4
          first
          | exact hQ _ _ (Or.inr ⟨rfl, _, _, hPn, (a1.md.mn (fun a b h => Or.inl h)).set (Or.inr ⟨rfl, rfl, hww.2⟩), by rw [setI_ne (by omega)]; exact a4, by rw [setI_ne (by omega)]; exact a2, by rw [setI_ne (by omega)]; exact a7, fun _ => setI_same⟩)
          | exact hQ _ _ (Or.inr ⟨rfl, _, _, hPn, a1.md.mn (fun a b h => Or.inl h), a4, a2, a7, fun h => by omega⟩)
      · have hz := if01 zc38
        refine v_aload_n dX12_isNext_41 rfl ?_
        refine v_iconst dX12_isNext_42 ?_
        refine v_callV1 dX12_isNext_43 mv_RX12_113 rfl rfl (Nat.le_of_ble_eq_true rfl) ?_
        refine ok_fails a2 ?_
        show V _ _ _ _ (_ :: _) _ _
        refine v_ireturn dX12_isNext_46 rfl (rfl) ?_
        exact hQ _ _ (Or.inl ⟨rfl, (2, skp T i), by unfold Pn; rw [if_neg zc12, if_pos (by omega)], MdF.set (MdF.set hF1 (Or.inl (by omega))) (Or.inl (by omega)), by rw [setI_ne (by omega), setI_same], by rw [setI_same]; rfl⟩)
  · rw [lg_eq, tk_m1] at zc12
    refine v_aload_n dX12_isNext_15 rfl ?_
    refine v_iconst dX12_isNext_16 ?_
    refine v_callV1 dX12_isNext_17 mv_RX12_113 rfl rfl (Nat.le_of_ble_eq_true rfl) ?_
    refine ok_fails a2 ?_
    show V _ _ _ _ (_ :: _) _ _
    refine v_ireturn dX12_isNext_20 rfl (rfl) ?_
    exact hQ _ _ (Or.inl ⟨rfl, (1, skp T i), by unfold Pn; rw [if_pos (Classical.not_not.mp zc12)], MdF.set (MdF.set hF1 (Or.inl (by omega))) (Or.inl (by omega)), by rw [setI_ne (by omega), setI_same], by rw [setI_same]; rfl⟩)
theorem ok_mends (hX : RepMX σ T) (hT : vT T) (h8 : σ.1 44 8 = nI i) (hi : i ≤ T.length) (hQ : ∀ τ x, EnP σ τ T i x → Q (some (.int x)) τ) : Ok (D + 2) mX12_ends [.ref 44] σ Q := by
  refine ok_enter rfl (Nat.le_of_ble_eq_true rfl) ?_
  refine v_aload_n dX12_ends_0 rfl ?_
  refine v_callV0 dX12_ends_1 mv_RX12_110 rfl rfl (Nat.le_of_ble_eq_true rfl) ?_
  refine ok_next hX hT h8 hi (fun τ1 a1 a2 a3 a4 a5 => ?_)
  have hF1 : MXF σ τ1 := MXF.of a1.md (fun a b h => h.x)
  show V _ _ _ _ _ _ _
  refine v_aload_n dX12_ends_4 rfl ?_
  refine v_getJ dX12_ends_5 fl_RX12_93 rfl ?_
  rw [a3]
  refine v_ldc2 dX12_ends_8 cn_RX12_105 ?_
  refine v_lcmp dX12_ends_11 ?_
  refine v_if_eq dX12_ends_12 (fun zc12 => ?_) (fun zc12 => ?_)
  · rw [lg_eq, tk_m3] at zc12
    refine v_iconst dX12_ends_23 ?_
    refine v_goto dX12_ends_24 ?_
    refine v_ireturn dX12_ends_28 rfl (rfl) ?_
    first
    | exact hQ _ _ (Or.inr ⟨rfl, skp T i + 1, by unfold Pe; rw [if_pos zc12], a1.md, by rw [nxt_e zc12] at a4; exact a4⟩)
    | exact hQ _ _ (Or.inl ⟨rfl, (1, skp T i), by unfold Pe; rw [if_neg zc12], MdF.set (MdF.set hF1 (Or.inl (by omega))) (Or.inl (by omega)), by rw [setI_ne (by omega), setI_same], by rw [setI_same]; rfl⟩)
  · rw [lg_eq, tk_m3] at zc12
    refine v_aload_n dX12_ends_15 rfl ?_
    refine v_iconst dX12_ends_16 ?_
    refine v_callV1 dX12_ends_17 mv_RX12_113 rfl rfl (Nat.le_of_ble_eq_true rfl) ?_
    refine ok_fails a2 ?_
    show V _ _ _ _ (_ :: _) _ _
    refine v_if_eq dX12_ends_20 (fun zc20 => ?_) (fun zc20 => ?_)
    · refine v_iconst dX12_ends_27 ?_
      refine v_ireturn dX12_ends_28 rfl (rfl) ?_
      first
      | exact hQ _ _ (Or.inr ⟨rfl, skp T i + 1, by unfold Pe; rw [if_pos zc12], a1.md, by rw [nxt_e zc12] at a4; exact a4⟩)
      | exact hQ _ _ (Or.inl ⟨rfl, (1, skp T i), by unfold Pe; rw [if_neg zc12], MdF.set (MdF.set hF1 (Or.inl (by omega))) (Or.inl (by omega)), by rw [setI_ne (by omega), setI_same], by rw [setI_same]; rfl⟩)
    · exact absurd rfl zc20
theorem satN_or {b : Nat} (hb : 2 ≤ b) : ∀ k, (satN b k = b ^ k ∧ b ^ k ≤ 100) ∨ (satN b k = 1000 ∧ 100 < b ^ k)
  | 0 => Or.inl ⟨rfl, by rw [Nat.pow_zero]; omega⟩
  | k + 1 => by
    have e : satN b (k + 1) = if 100 < satN b k * b then 1000 else satN b k * b := rfl
    rw [e, Nat.pow_succ]
    rcases satN_or hb k with ⟨h1, h2⟩ | ⟨h1, h2⟩
    · rw [h1]
      by_cases h : 100 < b ^ k * b
      · rw [if_pos h]; exact Or.inr ⟨rfl, h⟩
      · rw [if_neg h]; exact Or.inl ⟨rfl, by omega⟩
    · rw [h1, if_pos (by omega)]
      refine Or.inr ⟨rfl, Nat.lt_of_lt_of_le h2 ?_⟩
      exact Nat.le_mul_of_pos_right _ (by omega)
def pD (a b : Nat) : Prop := a = 44 ∧ ((8 ≤ b ∧ b ≤ 12) ∨ (15 ≤ b ∧ b ≤ 18))
theorem pT.d {a b : Nat} (h : pT a b) : pD a b := by unfold pT at h; unfold pD; omega
theorem pD.x {a b : Nat} (h : pD a b) : (a = 44 ∧ 8 ≤ b ∧ b ≤ 19) ∨ a = 47 := by unfold pD at h; omega
theorem v_mdial36 {τ0 : Wd} (hF0 : MdF pT τ0 σ) (hX : RepMX σ T) (hT : vT T) (h9 : σ.1 44 9 = nI p) (h8 : kd ≠ -1 → σ.1 44 8 = nI (p + (wrd T p).length)) (hp : p ≤ T.length) (hpi : skp T i = p) (hkd : dkW (wrd T p) = kd)
    (hQ : ∀ τ x, ((x = 0 ∧ ∃ f, Pdial T i = .inl f ∧ MXF τ0 τ ∧ τ.1 44 13 = nI f.2 ∧ τ.1 44 14 = nI f.1) ∨ (x = 1 ∧ ∃ y, Pdial T i = .inr y ∧ MdF pD τ0 τ ∧ τ.1 44 15 = iz y.1.1 ∧ τ.1 44 16 = nI y.1.2.1 ∧ τ.1 44 17 = nI y.1.2.2.1 ∧ τ.1 44 18 = nI y.1.2.2.2.1 ∧ τ.1 44 8 = nI y.2)) → Q (some (.int x)) τ) :
    V mX12_isDial (D + 3) 36 [some (.ref 44), none] [.int (iz kd), .ref 44] σ Q := by
  have hw := wrd_len hp
  have hkr := dkW_rng (wrd T p)
  have hl := hT.1
  obtain ⟨σ1, hσ1⟩ : ∃ σ1, σ1 = setI σ 44 15 (iz kd) := ⟨_, rfl⟩
  have hD1 : MdF pD τ0 σ1 := by rw [hσ1]; exact (hF0.mn (fun a b h => h.d)).set ⟨rfl, by omega⟩
  have hX1 : RepMX σ1 T := by rw [hσ1]; exact ⟨by rw [setI_ne (by omega)]; exact hX.1, fun j c hj => by rw [setI_ne (by omega)]; exact hX.2 j c hj⟩
  have h15 : σ1.1 44 15 = iz kd := by rw [hσ1, setI_same]
  have h91 : σ1.1 44 9 = nI p := by rw [hσ1, setI_ne (by omega)]; exact h9
  have h81 : kd ≠ -1 → σ1.1 44 8 = nI (p + (wrd T p).length) := fun h => by rw [hσ1, setI_ne (by omega)]; exact h8 h
  have e0 : ∀ (b f : Nat), 2 ≤ b → b ≤ 10 → f ≤ 6 → satN b f ≤ 1000 := fun b f h1 h2 h3 => by rcases satN_or h1 f with h | h <;> omega
  have numbers : ∀ (b f j1 j2 : Nat) (τ3 : Wd), 2 ≤ b → b ≤ 10 → f ≤ 6 → j2 ≤ T.length → MdF pD τ0 τ3 → RepMX τ3 T → τ3.1 44 15 = iz kd → τ3.1 44 16 = nI b → τ3.1 44 17 = nI f → τ3.1 44 9 = nI (skp T j1) → τ3.1 44 8 = nI j2 → (Pdial T i = if 100 < b ^ f then .inl (2, skp T j1) else bnd (Pe T j2) (fun j => .inr ((kd, b, f, b ^ f, []), j))) → ∀ j c τ, c + j = f → MdF (fun a b => a = 44 ∧ b = 18) τ3 τ → τ.1 44 18 = nI (satN b c) → V mX12_isDial (D + 3) 102 [some (.ref 44), some (.int (nI c))] [] τ Q := by
    intro b f j1 j2 τ3 hb hb2 hf hj2 hD3 hX3 g15 g16 g17 g9 g8 hPd j
    induction j with
    | zero =>
      intro c τ hc hF h18
      obtain rfl : c = f := by omega
      have k17 : τ.1 44 17 = nI c := by rw [hF.1 _ _ (by omega)]; exact g17
      have hXt : RepMX τ T := hF.x hX3 (by omega) (fun b => by omega)
      have k8 : τ.1 44 8 = nI j2 := by rw [hF.1 _ _ (by omega)]; exact g8
      have k9 : τ.1 44 9 = nI (skp T j1) := by rw [hF.1 _ _ (by omega)]; exact g9
      have hDt : MdF pD τ0 τ := hD3.tr (hF.mn (fun a b h => ⟨h.1, by omega⟩))
      have hs := satN_or hb c
      have hs2 := e0 b c hb hb2 hf
      refine v_iload_n dX12_isDial_102 rfl ?_
      refine v_aload_n dX12_isDial_103 rfl ?_
      refine v_getI dX12_isDial_104 fl_RX12_130 rfl ?_
      rw [k17]
      refine v_icmp_ge dX12_isDial_107 (fun zc107 => ?_) (fun zc107 => ?_)
      · refine v_aload_n dX12_isDial_149 rfl ?_
        refine v_getI dX12_isDial_150 fl_RX12_133 rfl ?_
        rw [h18]
        refine v_bipush dX12_isDial_153 ?_
        rw [show (100 : Int32) = nI 100 from rfl]
        refine v_icmp_le dX12_isDial_155 (fun zc155 => ?_) (fun zc155 => ?_)
        · rw [nI_leI (by omega) (by omega)] at zc155
          refine v_aload_n dX12_isDial_166 rfl ?_
          refine v_callV0 dX12_isDial_167 mv_RX12_136 rfl rfl (Nat.le_of_ble_eq_true rfl) ?_
          refine ok_mends hXt hT k8 hj2 (fun τ4 x4 e4 => ?_)
          show V _ _ _ _ (_ :: _) _ _
          refine v_ireturn dX12_isDial_170 rfl (by first | rfl | (rcases e4 with h | h <;> rw [h.1] <;> rfl)) ?_
          first
          | (rcases e4 with ⟨hx, g, q1, q2, q3, q4⟩ | ⟨hx, j', q1, q2, q3⟩
             · exact hQ _ _ (Or.inl ⟨hx, g, by rw [hPd, if_neg (by omega)]; exact bnd_il q1, (MXF.of hDt (fun a b h => h.x)).tr q2, q3, q4⟩)
             · refine hQ _ _ (Or.inr ⟨hx, _, by rw [hPd, if_neg (by omega)]; exact bnd_in q1, hDt.tr (q2.mn (fun a b h => h.d)), ?_, ?_, ?_, ?_, q3⟩)
               · rw [q2.1 _ _ (by unfold pT; omega), hF.1 _ _ (by omega)]; exact g15
               · rw [q2.1 _ _ (by unfold pT; omega), hF.1 _ _ (by omega)]; exact g16
               · rw [q2.1 _ _ (by unfold pT; omega), hF.1 _ _ (by omega)]; exact g17
               · rw [q2.1 _ _ (by unfold pT; omega), h18]; show nI (satN b c) = nI (b ^ c); congr 1; omega)
          | exact hQ _ _ (Or.inl ⟨rfl, (2, skp T j1), by rw [hPd, if_pos (by omega)], MdF.set (MdF.set (MXF.of hDt (fun a b h => h.x)) (Or.inl (by omega))) (Or.inl (by omega)), by rw [setI_ne (by omega), setI_same], by rw [setI_same]; rfl⟩)
        · rw [nI_leI (by omega) (by omega)] at zc155
          refine v_aload_n dX12_isDial_158 rfl ?_
          refine v_iconst dX12_isDial_159 ?_
          refine v_callV1 dX12_isDial_160 mv_RX12_113 rfl rfl (Nat.le_of_ble_eq_true rfl) ?_
          refine ok_fails k9 ?_
          show V _ _ _ _ (_ :: _) _ _
          refine v_goto dX12_isDial_163 ?_
          refine v_ireturn dX12_isDial_170 rfl (by first | rfl | (rcases e4 with h | h <;> rw [h.1] <;> rfl)) ?_
          first
          | (rcases e4 with ⟨hx, g, q1, q2, q3, q4⟩ | ⟨hx, j', q1, q2, q3⟩
             · exact hQ _ _ (Or.inl ⟨hx, g, by rw [hPd, if_neg (by omega)]; exact bnd_il q1, (MXF.of hDt (fun a b h => h.x)).tr q2, q3, q4⟩)
             · refine hQ _ _ (Or.inr ⟨hx, _, by rw [hPd, if_neg (by omega)]; exact bnd_in q1, hDt.tr (q2.mn (fun a b h => h.d)), ?_, ?_, ?_, ?_, q3⟩)
               · rw [q2.1 _ _ (by unfold pT; omega), hF.1 _ _ (by omega)]; exact g15
               · rw [q2.1 _ _ (by unfold pT; omega), hF.1 _ _ (by omega)]; exact g16
               · rw [q2.1 _ _ (by unfold pT; omega), hF.1 _ _ (by omega)]; exact g17
               · rw [q2.1 _ _ (by unfold pT; omega), h18]; show nI (satN b c) = nI (b ^ c); congr 1; omega)
          | exact hQ _ _ (Or.inl ⟨rfl, (2, skp T j1), by rw [hPd, if_pos (by omega)], MdF.set (MdF.set (MXF.of hDt (fun a b h => h.x)) (Or.inl (by omega))) (Or.inl (by omega)), by rw [setI_ne (by omega), setI_same], by rw [setI_same]; rfl⟩)
      · exact absurd (nI_le (by omega) (by omega)) zc107
    | succ j ih =>
      intro c τ hc hF h18
      have k17 : τ.1 44 17 = nI f := by rw [hF.1 _ _ (by omega)]; exact g17
      have k16 : τ.1 44 16 = nI b := by rw [hF.1 _ _ (by omega)]; exact g16
      have hs2 := e0 b c hb hb2 (by omega)
      have hsb : satN b c * b ≤ 10000 := Nat.le_trans (Nat.mul_le_mul hs2 hb2) (by decide)
      have hnx := ih (c + 1) (setI τ 44 18 (nI (satN b (c + 1)))) (by omega) (hF.set ⟨rfl, rfl⟩) setI_same
      have e : satN b (c + 1) = if 100 < satN b c * b then 1000 else satN b c * b := rfl
      refine v_iload_n dX12_isDial_102 rfl ?_
      refine v_aload_n dX12_isDial_103 rfl ?_
      refine v_getI dX12_isDial_104 fl_RX12_130 rfl ?_
      rw [k17]
      refine v_icmp_ge dX12_isDial_107 (fun zc107 => ?_) (fun zc107 => ?_)
      · exact absurd zc107 (nI_ge (by omega) (by omega))
      · refine v_aload_n dX12_isDial_110 rfl ?_
        refine v_aload_n dX12_isDial_111 rfl ?_
        refine v_getI dX12_isDial_112 fl_RX12_133 rfl ?_
        rw [h18]
        refine v_aload_n dX12_isDial_115 rfl ?_
        refine v_getI dX12_isDial_116 fl_RX12_127 rfl ?_
        rw [k16]
        refine v_imul dX12_isDial_119 ?_
        refine v_bipush dX12_isDial_120 ?_
        rw [pk_mul, show (100 : Int32) = nI 100 from rfl]
        refine v_icmp_le dX12_isDial_122 (fun zc122 => ?_) (fun zc122 => ?_)
        · rw [nI_leI (by omega) (by omega)] at zc122
          rw [if_neg (by omega)] at e
          refine v_aload_n dX12_isDial_131 rfl ?_
          refine v_getI dX12_isDial_132 fl_RX12_133 rfl ?_
          rw [h18]
          refine v_aload_n dX12_isDial_135 rfl ?_
          refine v_getI dX12_isDial_136 fl_RX12_127 rfl ?_
          rw [k16]
          refine v_imul dX12_isDial_139 ?_
          refine v_putI dX12_isDial_140 fp_RX12_133 rfl ?_
          refine v_iinc dX12_isDial_143 rfl (Nat.le_of_ble_eq_true rfl) rfl ?_
          refine v_goto dX12_isDial_146 ?_
          rw [nI_1]
          first | (rw [pk_mul, ← e]; exact hnx) | (rw [show (1000 : Int32) = nI (satN b (c + 1)) by rw [e]; rfl]; exact hnx)
        · rw [nI_leI (by omega) (by omega)] at zc122
          rw [if_pos (by omega)] at e
          refine v_sipush dX12_isDial_125 ?_
          refine v_goto dX12_isDial_128 ?_
          refine v_putI dX12_isDial_140 fp_RX12_133 rfl ?_
          refine v_iinc dX12_isDial_143 rfl (Nat.le_of_ble_eq_true rfl) rfl ?_
          refine v_goto dX12_isDial_146 ?_
          rw [nI_1]
          first | (rw [pk_mul, ← e]; exact hnx) | (rw [show (1000 : Int32) = nI (satN b (c + 1)) by rw [e]; rfl]; exact hnx)
  refine v_putI dX12_isDial_36 fp_RX12_121 rfl ?_
  rw [← hσ1]
  refine v_aload_n dX12_isDial_39 rfl ?_
  refine v_getI dX12_isDial_40 fl_RX12_121 rfl ?_
  rw [h15]
  refine v_iconst dX12_isDial_43 ?_
  refine v_icmp_ne dX12_isDial_44 (fun zc44 => ?_) (fun zc44 => ?_)
  · rw [show (-1 : Int32) = iz (-1) from rfl, iz_eq (by omega) (by omega) (by omega) (by omega)] at zc44
    refine v_aload_n dX12_isDial_53 rfl ?_
    refine v_iconst dX12_isDial_54 ?_
    refine v_iconst dX12_isDial_55 ?_
    refine v_bipush dX12_isDial_56 ?_
    refine v_callV3 dX12_isDial_58 mv_RX12_124 rfl rfl (Nat.le_of_ble_eq_true rfl) ?_
    refine ok_isNext (w := 99) (lo := 2) (k := 10) (Or.inl ⟨rfl, rfl⟩) hX1 hT (h81 zc44) hw (by omega) (by omega) (fun τ1 x1 n1 => ?_)
    have hPd : Pdial T i = bnd (Pn T 2 10 (p + (wrd T p).length)) (fun b => bnd (Pn T 1 6 b.2) (fun f => if 100 < b.1 ^ f.1 then .inl (2, skp T b.2) else bnd (Pe T f.2) (fun j => .inr ((kd, b.1, f.1, b.1 ^ f.1, []), j)))) := by unfold Pdial; rw [hpi, hkd, if_neg zc44]
    show V _ _ _ _ (_ :: _) _ _
    refine v_if_ne dX12_isDial_61 (fun zc61 => ?_) (fun zc61 => ?_)
    · obtain ⟨-, b, j1, q1, q2, q3, q4, q5, -⟩ := n1.resolve_left (fun h => zc61 h.1)
      have hb := Pn_r q1
      have hj1 := Pn_j hw q1
      have q2' : MdF pT σ1 τ1 := q2.mn (fun a b h => h.elim id (fun h => by omega))
      have hX2 : RepMX (setI τ1 44 16 (nI b)) T := MdF.x (P := fun a c => pT a c ∨ (a = 44 ∧ c = 16)) ((q2'.mn (fun a b h => Or.inl h)).set (Or.inr ⟨rfl, rfl⟩)) hX1 (by unfold pT; omega) (fun b => by unfold pT; omega)
      have hD2 : MdF pD τ0 (setI τ1 44 16 (nI b)) := (hD1.tr (q2'.mn (fun a b h => h.d))).set ⟨rfl, by omega⟩
      refine v_aload_n dX12_isDial_66 rfl ?_
      refine v_aload_n dX12_isDial_67 rfl ?_
      refine v_getI dX12_isDial_68 fl_RX12_88 rfl ?_
      rw [q5]
      refine v_putI dX12_isDial_71 fp_RX12_127 rfl ?_
      refine v_aload_n dX12_isDial_74 rfl ?_
      refine v_iconst dX12_isDial_75 ?_
      refine v_iconst dX12_isDial_76 ?_
      refine v_bipush dX12_isDial_77 ?_
      refine v_callV3 dX12_isDial_79 mv_RX12_124 rfl rfl (Nat.le_of_ble_eq_true rfl) ?_
      refine ok_isNext (w := 99) (lo := 1) (k := 6) (Or.inl ⟨rfl, rfl⟩) hX2 hT (by rw [setI_ne (by omega)]; exact q3) hj1 (by omega) (by omega) (fun τ2 x2 n2 => ?_)
      show V _ _ _ _ (_ :: _) _ _
      refine v_if_ne dX12_isDial_82 (fun zc82 => ?_) (fun zc82 => ?_)
      · obtain ⟨-, f, j2, p1, p2, p3, p4, p5, -⟩ := n2.resolve_left (fun h => zc82 h.1)
        have hf := Pn_r p1
        have hj2 := Pn_j hj1 p1
        have p2' : MdF pT (setI τ1 44 16 (nI b)) τ2 := p2.mn (fun a b h => h.elim id (fun h => by omega))
        have hPd2 : Pdial T i = if 100 < b ^ f then .inl (2, skp T j1) else bnd (Pe T j2) (fun j => .inr ((kd, b, f, b ^ f, []), j)) := by rw [hPd, bnd_in q1]; exact bnd_in p1
        obtain ⟨τ3, hτ3⟩ : ∃ τ3, τ3 = setI (setI τ2 44 17 (nI f)) 44 18 1 := ⟨_, rfl⟩
        have k3 : ∀ a c, ¬ (a = 44 ∧ (c = 17 ∨ c = 18)) → τ3.1 a c = τ2.1 a c := fun a c h => by rw [hτ3, setI_ne (by omega), setI_ne (by omega)]
        have h102 := numbers b f j1 j2 τ3 hb.1 hb.2.1 hf.2.1 hj2 (by rw [hτ3]; exact ((hD2.tr (p2'.mn (fun a b h => h.d))).set ⟨rfl, by omega⟩).set ⟨rfl, by omega⟩) ⟨by rw [k3 _ _ (by omega), p2'.1 _ _ (by unfold pT; omega)]; exact hX2.1, fun j c hj => by rw [k3 _ _ (by omega), p2'.1 _ _ (by unfold pT; omega)]; exact hX2.2 j c hj⟩ (by rw [k3 _ _ (by omega), p2'.1 _ _ (by unfold pT; omega), setI_ne (by omega), q2'.1 _ _ (by unfold pT; omega)]; exact h15) (by rw [k3 _ _ (by omega), p2'.1 _ _ (by unfold pT; omega), setI_same]) (by rw [hτ3, setI_ne (by omega), setI_same]) (by rw [k3 _ _ (by omega)]; exact p4) (by rw [k3 _ _ (by omega)]; exact p3) hPd2 f 0 τ3 (by omega) MdF.rf (by rw [hτ3, setI_same]; rfl)
        refine v_aload_n dX12_isDial_87 rfl ?_
        refine v_aload_n dX12_isDial_88 rfl ?_
        refine v_getI dX12_isDial_89 fl_RX12_88 rfl ?_
        rw [p5]
        refine v_putI dX12_isDial_92 fp_RX12_130 rfl ?_
        refine v_aload_n dX12_isDial_95 rfl ?_
        refine v_iconst dX12_isDial_96 ?_
        refine v_putI dX12_isDial_97 fp_RX12_133 rfl ?_
        refine v_iconst dX12_isDial_100 ?_
        refine v_istore_n dX12_isDial_101 (Nat.le_of_ble_eq_true rfl) rfl ?_
        rw [← hτ3]
        exact h102
      · obtain ⟨-, f, p1, p2, p3, p4⟩ := n2.resolve_right (fun h => by rw [h.1] at zc82; exact absurd zc82 (by decide))
        refine v_iconst dX12_isDial_85 ?_
        refine v_ireturn dX12_isDial_86 rfl (rfl) ?_
        exact hQ _ _ (Or.inl ⟨rfl, f, by rw [hPd, bnd_in q1]; exact bnd_il p1, (MXF.of hD2 (fun a b h => h.x)).tr p2, p3, p4⟩)
    · obtain ⟨-, f, q1, q2, q3, q4⟩ := n1.resolve_right (fun h => by rw [h.1] at zc61; exact absurd zc61 (by decide))
      refine v_iconst dX12_isDial_64 ?_
      refine v_ireturn dX12_isDial_65 rfl (rfl) ?_
      exact hQ _ _ (Or.inl ⟨rfl, f, by rw [hPd]; exact bnd_il q1, (MXF.of hD1 (fun a b h => h.x)).tr q2, q3, q4⟩)
  · rw [show (-1 : Int32) = iz (-1) from rfl, iz_eq (by omega) (by omega) (by omega) (by omega)] at zc44
    refine v_aload_n dX12_isDial_47 rfl ?_
    refine v_iconst dX12_isDial_48 ?_
    refine v_callV1 dX12_isDial_49 mv_RX12_113 rfl rfl (Nat.le_of_ble_eq_true rfl) ?_
    refine ok_fails h91 ?_
    show V _ _ _ _ (_ :: _) _ _
    refine v_ireturn dX12_isDial_52 rfl (rfl) ?_
    exact hQ _ _ (Or.inl ⟨rfl, (1, p), by unfold Pdial; rw [hpi, hkd, if_pos zc44], MdF.set (MdF.set (MXF.of hD1 (fun a b h => h.x)) (Or.inl (by omega))) (Or.inl (by omega)), by rw [setI_ne (by omega), setI_same], by rw [setI_same]; rfl⟩)
theorem ok_isDial (hX : RepMX σ T) (hT : vT T) (h8 : σ.1 44 8 = nI i) (hi : i ≤ T.length) (hQ : ∀ τ x, ((x = 0 ∧ ∃ f, Pdial T i = .inl f ∧ MXF σ τ ∧ τ.1 44 13 = nI f.2 ∧ τ.1 44 14 = nI f.1) ∨ (x = 1 ∧ ∃ y, Pdial T i = .inr y ∧ MdF pD σ τ ∧ τ.1 44 15 = iz y.1.1 ∧ τ.1 44 16 = nI y.1.2.1 ∧ τ.1 44 17 = nI y.1.2.2.1 ∧ τ.1 44 18 = nI y.1.2.2.2.1 ∧ τ.1 44 8 = nI y.2)) → Q (some (.int x)) τ) : Ok (D + 3) mX12_isDial [.ref 44] σ Q := by
  have hp : skp T i ≤ T.length := spn_le hi
  refine ok_enter rfl (Nat.le_of_ble_eq_true rfl) ?_
  refine v_aload_n dX12_isDial_0 rfl ?_
  refine v_callV0 dX12_isDial_1 mv_RX12_110 rfl rfl (Nat.le_of_ble_eq_true rfl) ?_
  refine ok_next hX hT h8 hi (fun τ1 a1 a2 a3 a4 a5 => ?_)
  have hX1 := a1.x hX
  have h36 := fun kd hkd h8' => v_mdial36 (D := D) (Q := Q) (kd := kd) a1.md hX1 hT a2 h8' hp rfl hkd hQ
  show V _ _ _ _ _ _ _
  refine v_aload_n dX12_isDial_4 rfl ?_
  refine v_aload_n dX12_isDial_5 rfl ?_
  refine v_getJ dX12_isDial_6 fl_RX12_93 rfl ?_
  rw [a3]
  refine v_ldc2 dX12_isDial_9 cn_RX12_117 ?_
  refine v_lcmp dX12_isDial_12 ?_
  refine v_if_ne dX12_isDial_13 (fun zc13 => ?_) (fun zc13 => ?_)
  · rw [lg_eq, show (9876874 : Int64) = lN (fo27 (wd 1)) from rfl, tk_w (by decide)] at zc13
    refine v_aload_n dX12_isDial_20 rfl ?_
    refine v_getJ dX12_isDial_21 fl_RX12_93 rfl ?_
    rw [a3]
    refine v_ldc2 dX12_isDial_24 cn_RX12_119 ?_
    refine v_lcmp dX12_isDial_27 ?_
    refine v_if_ne dX12_isDial_28 (fun zc28 => ?_) (fun zc28 => ?_)
    · rw [lg_eq, show (388978 : Int64) = lN (fo27 (wd 2)) from rfl, tk_w (by decide)] at zc28
      refine v_iconst dX12_isDial_35 ?_
      first
      | exact h36 0 (by unfold dkW; rw [if_pos zc13]) (fun _ => by rw [a4, nxt_w (q := 1) (by decide) zc13])
      | exact h36 1 (by unfold dkW; rw [if_neg zc13, if_pos zc28]) (fun _ => by rw [a4, nxt_w (q := 2) (by decide) zc28])
      | exact h36 (-1) (by unfold dkW; rw [if_neg zc13, if_neg zc28]) (fun h => absurd rfl h)
    · rw [lg_eq, show (388978 : Int64) = lN (fo27 (wd 2)) from rfl, tk_w (by decide)] at zc28
      refine v_iconst dX12_isDial_31 ?_
      refine v_goto dX12_isDial_32 ?_
      first
      | exact h36 0 (by unfold dkW; rw [if_pos zc13]) (fun _ => by rw [a4, nxt_w (q := 1) (by decide) zc13])
      | exact h36 1 (by unfold dkW; rw [if_neg zc13, if_pos zc28]) (fun _ => by rw [a4, nxt_w (q := 2) (by decide) zc28])
      | exact h36 (-1) (by unfold dkW; rw [if_neg zc13, if_neg zc28]) (fun h => absurd rfl h)
  · rw [lg_eq, show (9876874 : Int64) = lN (fo27 (wd 1)) from rfl, tk_w (by decide)] at zc13
    refine v_iconst dX12_isDial_16 ?_
    refine v_goto dX12_isDial_17 ?_
    first
    | exact h36 0 (by unfold dkW; rw [if_pos zc13]) (fun _ => by rw [a4, nxt_w (q := 1) (by decide) zc13])
    | exact h36 1 (by unfold dkW; rw [if_neg zc13, if_pos zc28]) (fun _ => by rw [a4, nxt_w (q := 2) (by decide) zc28])
    | exact h36 (-1) (by unfold dkW; rw [if_neg zc13, if_neg zc28]) (fun h => absurd rfl h)
end MR1
