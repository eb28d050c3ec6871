/-! ===== told numbers one behind the other: the class's spread ===== -/
def HI (R : Rk) (src : List En) (g B0 : Nat) (q E : List En) (h i U : Nat) : Prop :=
  Cr R src g q E U ∧ i ≤ src.length ∧ (∀ (j : Nat) (x : En), i ≤ j → src[j]? = some x → U ≤ x.2.2.2) ∧ h ≤ q.length ∧ (∀ e, q[h]? = some e → U ≤ e.2.2.2 + 1) ∧
  (∀ (j : Nat) (e : En) (k : Nat), j < h → q[j]? = some e → k < R.2.2.2.2.length → ∃ e' ∈ q ++ E, e'.1 = nx R e.1 k ∧ e'.2.2.2 ≤ e.2.2.2 + 1) ∧
  (∀ (j : Nat) (x : En), j < i → src[j]? = some x → ∃ e' ∈ q ++ E, e'.1 = x.1 ∧ e'.2.2.2 ≤ x.2.2.2) ∧ U ≤ B0 + h
section CS
variable {D : Nat} {σ τ τ' : Wd} {Q : Option Value → Wd → Prop} {R : Rk} {s t : St} {q q' E E' src : List En} {a b c g h i k n m d r U B0 : Nat}
theorem pre_mem {l l' : List En} {e : En} (hp : l <+: l') (he : e ∈ l) : e ∈ l' := hp.subset he
theorem pre_get {l l' : List En} {j : Nat} {e : En} (hp : l <+: l') (he : l[j]? = some e) : l'[j]? = some e := by
  obtain ⟨t, rfl⟩ := hp
  rw [List.getElem?_append_left (List.getElem?_eq_some_iff.mp he).1]
  exact he
theorem pre_app {e : En} (h1 : q <+: q') (h2 : E <+: E') (he : e ∈ q ++ E) : e ∈ q' ++ E' := by
  rcases List.mem_append.mp he with h | h
  · exact List.mem_append_left _ (h1.subset h)
  · exact List.mem_append_right _ (h2.subset h)
/-- what stands when the search ends -/
theorem HI.walk {W : Nat} (hI : HI R src g B0 q E h i U) (hW : ∀ j e, q[j]? = some e → h ≤ j → W ≤ e.2.2.2 + 1) {x : En} {j : Nat} (hj : j < i) (hx : src[j]? = some x) (ks : List Nat) (ho : okP R ks) (hg : (goP R x.1 ks).1 = g) : (∃ y ∈ E, ∃ ks', okP R ks' ∧ goP R y.1 ks' = goP R x.1 ks ∧ y.2.2.2 + ks'.length ≤ x.2.2.2 + ks.length) ∨ W ≤ x.2.2.2 + ks.length := by
  obtain ⟨hC, -, -, -, -, h6, h7, -⟩ := hI
  obtain ⟨e0, z1, z2, z3⟩ := h7 j x hj hx
  rcases wlk (R := R) (g := g) (A := fun t d => ∃ e ∈ q ++ E, e.1 = t ∧ e.2.2.2 = d) (U := W) (fun t d k ⟨e, a1, a2, a3⟩ ht hk => by
    rcases List.mem_append.mp a1 with he | he
    · obtain ⟨u, hu⟩ := List.getElem?_of_mem he
      rcases Nat.lt_or_ge u h with h1 | h1
      · obtain ⟨e', b1, b2, b3⟩ := h6 u e k h1 hu hk
        exact Or.inl ⟨_, ⟨e', b1, by rw [b2, a2], rfl⟩, by omega⟩
      · exact Or.inr (by have := hW u e hu h1; omega)
    · exact absurd (by rw [← a2]; exact hC.2.2.1 e he) ht) ks x.1 e0.2.2.2 ⟨e0, z1, z2, rfl⟩ ho hg with ⟨t', d', ks', ⟨y, y1, y2, y3⟩, b2, b3, b4, b5⟩ | hb
  · rcases List.mem_append.mp y1 with hy | hy
    · exact absurd (by rw [y2]; exact b2) (hC.2.1 y hy)
    · exact Or.inl ⟨y, hy, ks', b3, by rw [y2]; exact b4, by omega⟩
  · exact Or.inr (by omega)
theorem Cr.stg1 (hC : Cr R src g q E U) : ∀ y ∈ E, y.1.1 = g ∧ ∃ x ∈ src, ∃ ks, okP R ks ∧ goP R x.1 ks = y.1 ∧ y.2.2.2 = x.2.2.2 + ks.length := fun y hy => ⟨hC.2.2.1 y hy, hC.2.2.2.2.2.2 y (List.mem_append_right _ hy)⟩
theorem HI.fin1 (one : Bool) (hI : HI R src g B0 q E h i U) (hh : h = q.length) (hi : i = src.length) : Stg R src g E one := by
  refine ⟨hI.1.stg1, fun x hx ks ho hg => ?_⟩
  obtain ⟨j, hj⟩ := List.getElem?_of_mem hx
  have hjl := (List.getElem?_eq_some_iff.mp hj).1
  rcases hI.walk (W := x.2.2.2 + ks.length + 1) (fun u e hu h1 => by
    rw [List.getElem?_eq_none (by omega)] at hu; cases hu) (by omega) hj ks ho hg with ⟨y, y1, ks', y2, y3, y4⟩ | hb
  · exact ⟨y, y1, by omega, fun _ => ⟨ks', y2, y3, y4⟩⟩
  · omega
theorem HI.fin2 {e0 : En} (hI : HI R src g B0 q E h i U) (he : E[0]? = some e0) : Stg R src g E true := by
  have he0 := List.mem_of_getElem? he
  refine ⟨hI.1.stg1, fun x hx ks ho hg => ⟨e0, he0, ?_, fun h => by cases h⟩⟩
  obtain ⟨j, hj⟩ := List.getElem?_of_mem hx
  have hU := hI.1.2.2.2.2.2.1 e0 (List.mem_append_right _ he0)
  rcases Nat.lt_or_ge j i with h1 | h1
  · rcases hI.walk (W := U) (fun u e hu h1 => by
      have hul := (List.getElem?_eq_some_iff.mp hu).1
      have h2 := hI.2.2.2.2.1 (q[h]'(by omega)) (List.getElem?_eq_getElem (by omega))
      have h3 := hI.1.2.2.2.1 h u _ e h1 (List.getElem?_eq_getElem (by omega)) hu
      omega) h1 hj ks ho hg with ⟨y, y1, ks', y2, y3, y4⟩ | hb
    · obtain ⟨u, hu⟩ := List.getElem?_of_mem y1
      have := hI.1.2.2.2.2.1 0 u e0 y (Nat.zero_le _) he hu
      omega
    · omega
  · have := hI.2.2.1 j x h1 hj
    omega
theorem SR.kept (h : SR τ a src) (hk : ∀ b, τ'.1 33 3 = τ.1 33 3 ∧ τ'.1 a b = τ.1 a b ∧ τ'.1 (a + 1) b = τ.1 (a + 1) b) : SR τ' a src := ⟨by rw [(hk 0).1]; exact h.1, fun j e hj => by rw [(hk j).2.1, (hk j).2.2]; exact h.2 j e hj⟩
/-- the frame of the whole search -/
def YF (c : Nat) (σ τ : Wd) : Prop := (∀ p b, ¬ (p = 24 ∨ p = 25 ∨ p = c ∨ p = c + 1 ∨ (p = 22 ∧ (b = 3 ∨ b = 4)) ∨ (p = 33 ∧ b = 6)) → τ.1 p b = σ.1 p b) ∧ τ.2.2 = σ.2.2 ∧ ∀ p, p ≠ 23 → τ.2.1 p = σ.2.1 p
theorem YF.tr (h1 : YF c σ τ) (h2 : XF c τ τ') : YF c σ τ' := ⟨fun p b h => by rw [h2.1 p b (fun hh => h (by
  rcases hh with hh | hh | hh | hh | ⟨h3, h4⟩ | hh
  · exact Or.inl hh
  · exact Or.inr (Or.inl hh)
  · exact Or.inr (Or.inr (Or.inl hh))
  · exact Or.inr (Or.inr (Or.inr (Or.inl hh)))
  · exact Or.inr (Or.inr (Or.inr (Or.inr (Or.inl ⟨h3, Or.inl h4⟩))))
  · exact Or.inr (Or.inr (Or.inr (Or.inr (Or.inr hh)))))) , h1.1 p b h], by rw [h2.2.1, h1.2.1], fun p h => by rw [h2.2.2 p h, h1.2.2 p h]⟩
set_option maxHeartbeats 4000000 in
theorem ok_chspread (one : Bool) (hA : AP σ a c) (hr : vIsR r) (hR : RepR σ r R) (hv : vR 8 R) (hm : 0 < R.2.2.2.1) (hgm : g < R.2.2.2.1) (hS : SR σ a src) (hsv : ∀ x ∈ src, vS R.2.2.2.1 x.1) (hss : srt src) (hsl : src.length ≤ 602) (hsd : ∀ x ∈ src, x.2.2.2 ≤ B0) (hB0 : B0 ≤ 1000000)
    (hQ : ∀ τ E, YF c σ τ → τ.1 22 4 = 0 → EX τ c E → Stg R src g E one → srt E → bfV R.2.2.2.1 E → (∀ e ∈ E, e.1.1 = g ∧ e.2.2.2 ≤ B0 + 60200) → Q none τ) : Ok (D + 4) mX1_spread [.ref 33, .ref r, .int (nI g), .int (if one = true then 1 else 0)] σ Q := by
  have hm2 := hv.m100
  have hK := hv.n9
  have hpl := nPl_le hm2
  have hac : (34 ≤ a ∧ a ≤ 36) ∧ (34 ≤ c ∧ c ≤ 36) ∧ a ≠ c ∧ a ≠ c + 1 ∧ a + 1 ≠ c := by rcases hA.1 with h | h <;> omega
  have hr12 : r + 4 < 13 ∧ 3 ≤ r := by rcases hr with rfl | rfl <;> omega
  have hRt : ∀ τ, YF c σ τ → RepR τ r R := fun τ hF => hR.kept (fun p b q1 q2 => hF.1 _ _ (by omega))
  have hSt : ∀ τ, YF c σ τ → SR τ a src := fun τ hF => hS.kept (fun b => ⟨hF.1 _ _ (by omega), hF.1 _ _ (by omega), hF.1 _ _ (by omega)⟩)
  have hAt : ∀ τ, YF c σ τ → AP τ a c := fun τ hF => hA.kept hF.2.1
  have fin : ∀ τ q E h i U x4 x5 x6 x7 x8 x9 x10, YF c σ τ → τ.1 22 4 = 0 → CX τ c q E → HI R src g B0 q E h i U → Stg R src g E one → V mX1_spread (D + 4) 221 [some (.ref 33), some (.ref r), some (.int (nI g)), some (.int (if one = true then 1 else 0)), x4, x5, x6, x7, x8, x9, x10] [] τ Q := by
    intro τ q E h i U x4 x5 x6 x7 x8 x9 x10 hF h22 hX hI hs
    have hql := Nat.le_trans (bfV.len hm (bfV_l hI.1.1)) hpl
    have h9 := hQ τ E hF h22 hX.2.1 hs hI.1.2.2.2.2.1 (bfV_r hI.1.1) (fun e he => ⟨hI.1.2.2.1 e he, by
      have h1 := hI.1.2.2.2.2.2.1 e (List.mem_append_right _ he)
      have h2 := hI.2.2.2.2.2.2.2
      have h3 := hI.2.2.2.1
      omega⟩)
    refine v_return dX1_spread_221 rfl ?_
    exact h9
  -- starts that join
  have join : ∀ (T turn h i0 : Nat) (q0 E0 : List En) (idl : Int32), T < 2000000 → ∀ j i b q E τ x9 x10, i + j = src.length → i0 ≤ i → YF c σ τ → τ.1 22 4 = 0 → CX τ c q E → Cr R src g q E b → b ≤ T → (∀ (u : Nat) (x : En), i ≤ u → src[u]? = some x → b ≤ x.2.2.2) → (∀ (u : Nat) (x : En), u < i → src[u]? = some x → ∃ e' ∈ q ++ E, e'.1 = x.1 ∧ e'.2.2.2 ≤ x.2.2.2) → q0 <+: q → E0 <+: E → (∀ (u : Nat) (e x : En), q0.length ≤ u → q[u]? = some e → src[i0]? = some x → x.2.2.2 ≤ e.2.2.2) →
      (∀ i b q E τ x9 x10, i0 ≤ i → i ≤ src.length → (∀ x, src[i]? = some x → T < x.2.2.2) → YF c σ τ → τ.1 22 4 = 0 → CX τ c q E → Cr R src g q E b → b ≤ T → (∀ (u : Nat) (x : En), u < i → src[u]? = some x → ∃ e' ∈ q ++ E, e'.1 = x.1 ∧ e'.2.2.2 ≤ x.2.2.2) → q0 <+: q → E0 <+: E → (∀ (u : Nat) (e x : En), q0.length ≤ u → q[u]? = some e → src[i0]? = some x → x.2.2.2 ≤ e.2.2.2) →
        V mX1_spread (D + 4) 160 [some (.ref 33), some (.ref r), some (.int (nI g)), some (.int (if one = true then 1 else 0)), some (.int (nI i)), some (.int (nI h)), some (.int (nI turn)), some (.int idl), some (.int (nI T)), x9, x10] [] τ Q) →
      V mX1_spread (D + 4) 108 [some (.ref 33), some (.ref r), some (.int (nI g)), some (.int (if one = true then 1 else 0)), some (.int (nI i)), some (.int (nI h)), some (.int (nI turn)), some (.int idl), some (.int (nI T)), x9, x10] [] τ Q := by
    intro T turn h i0 q0 E0 idl hT j
    induction j with
    | zero =>
      intro i b q E τ x9 x10 hi hi0 hF h22 hX hC hb hrem h7 hp1 hp2 hlo hnext
      have hst : τ.1 33 3 = nI src.length := (hSt τ hF).1
      refine v_iload dX1_spread_108 rfl ?_
      refine v_aload_n dX1_spread_110 rfl ?_
      refine v_getI dX1_spread_111 fl_RX1_18 rfl ?_
      rw [hst]
      refine v_icmp_ge dX1_spread_114 (fun zc114 => ?_) (fun zc114 => ?_)
      · exact hnext i b q E τ _ _ hi0 (by omega) (fun x hx => by rw [List.getElem?_eq_none (by omega)] at hx; cases hx) hF h22 hX hC hb h7 hp1 hp2 hlo
      · exact absurd (nI_le (by omega) (by omega)) zc114
    | succ j ih =>
      intro i b q E τ x9 x10 hi hi0 hF h22 hX hC hb hrem h7 hp1 hp2 hlo hnext
      have hst : τ.1 33 3 = nI src.length := (hSt τ hF).1
      have hil : i < src.length := by omega
      have hgi : src[i]? = some src[i] := List.getElem?_eq_getElem hil
      have hmi : src[i] ∈ src := List.getElem_mem hil
      obtain ⟨c1, c2⟩ := (hSt τ hF).2 i _ hgi
      have hdi := hsd _ hmi
      have hvi := hsv _ hmi
      have hbi := hrem i _ (Nat.le_refl _) hgi
      have hap := hAt τ hF
      refine v_iload dX1_spread_108 rfl ?_
      refine v_aload_n dX1_spread_110 rfl ?_
      refine v_getI dX1_spread_111 fl_RX1_18 rfl ?_
      rw [hst]
      refine v_icmp_ge dX1_spread_114 (fun zc114 => ?_) (fun zc114 => ?_)
      · exact absurd zc114 (nI_ge (by omega) (by omega))
      · refine v_aload_n dX1_spread_117 rfl ?_
        refine v_getM dX1_spread_118 fl_RX1_15 rfl ?_
        rw [hap.2.2.1]
        refine v_iload dX1_spread_121 rfl ?_
        refine v_callS2 dX1_spread_123 ms_RX1_50 (Nat.le_of_ble_eq_true rfl) ?_
        refine ok_at hA.lb (by decide) ?_
        rw [vAt_nI (by omega) (by omega), c2]
        show V _ _ _ _ (_ :: _) _ _
        refine v_iload dX1_spread_126 rfl ?_
        refine v_icmp_gt dX1_spread_128 (fun zc128 => ?_) (fun zc128 => ?_)
        · rw [nI_ltI (by omega) (by omega)] at zc128
          exact hnext i b q E τ _ _ hi0 (by omega) (fun x hx => by rw [hgi] at hx; rw [← Option.some.inj hx]; exact zc128) hF h22 hX hC hb h7 hp1 hp2 hlo
        · rw [nI_ltI (by omega) (by omega)] at zc128
          refine v_aload_n dX1_spread_131 rfl ?_
          refine v_aload_n dX1_spread_132 rfl ?_
          refine v_getM dX1_spread_133 fl_RX1_9 rfl ?_
          rw [hap.2.1]
          refine v_iload dX1_spread_136 rfl ?_
          refine v_callS2 dX1_spread_138 ms_RX1_50 (Nat.le_of_ble_eq_true rfl) ?_
          refine ok_at hA.la (by decide) ?_
          rw [vAt_nI (by omega) (by omega), c1]
          show V _ _ _ _ (_ :: _) _ _
          refine v_aload_n dX1_spread_141 rfl ?_
          refine v_getM dX1_spread_142 fl_RX1_15 rfl ?_
          rw [hap.2.2.1]
          refine v_iload dX1_spread_145 rfl ?_
          refine v_callS2 dX1_spread_147 ms_RX1_50 (Nat.le_of_ble_eq_true rfl) ?_
          refine ok_at hA.lb (by decide) ?_
          rw [vAt_nI (by omega) (by omega), c2]
          show V _ _ _ _ (_ :: _) _ _
          refine v_iload_n dX1_spread_150 rfl ?_
          refine v_callV3 dX1_spread_151 mv_RX1_73 rfl rfl (Nat.le_of_ble_eq_true rfl) ?_
          refine ok_chmeet hap hm hm2 hX hC hvi (by omega) hbi ⟨src[i], hmi, [], fun k hk => absurd hk List.not_mem_nil, rfl, rfl⟩ (fun τ2 q2 E2 f1 f2 f3 f4 f5 f6 f7 => ?_)
          have hF2 := hF.tr f1
          have hnx := ih (i + 1) src[i].2.2.2 q2 E2 τ2 x9 x10 (by omega) (by omega) hF2 (by rw [f1.1 _ _ (by omega)]; exact h22) f2 f3 (by omega) (fun u x hu hx => hss i u _ x (by omega) hgi hx) (fun u x hu hx => by
            rcases Nat.lt_or_ge u i with h1 | h1
            · obtain ⟨e', g1, g2, g3⟩ := h7 u x h1 hx
              exact ⟨e', pre_app f4 f5 g1, g2, g3⟩
            · have eu : u = i := by omega
              rw [eu, hgi] at hx
              rw [← Option.some.inj hx]
              exact f6) (hp1.trans f4) (hp2.trans f5) (fun u e x hu he hx => by
            rcases Nat.lt_or_ge u q.length with h1 | h1
            · obtain ⟨w, hw⟩ := f4
              rw [← hw, List.getElem?_append_left h1] at he
              exact hlo u e x hu he hx
            · rw [f7 u e h1 he]
              exact hss i0 i x _ hi0 hx hgi) hnext
          show V _ _ _ _ _ _ _
          refine v_iinc dX1_spread_154 rfl (Nat.le_of_ble_eq_true rfl) rfl ?_
          refine v_goto dX1_spread_157 ?_
          rw [nI_1]
          exact hnx
  have loop : ∀ n turn q E h i U τ x7 x8 x9 x10, turn + n = 60802 → turn ≤ h + i → YF c σ τ → τ.1 22 4 = 0 → CX τ c q E → HI R src g B0 q E h i U → V mX1_spread (D + 4) 21 [some (.ref 33), some (.ref r), some (.int (nI g)), some (.int (if one = true then 1 else 0)), some (.int (nI i)), some (.int (nI h)), some (.int (nI turn)), x7, x8, x9, x10] [] τ Q := by
    intro n
    induction n with
    | zero =>
      intro turn q E h i U τ x7 x8 x9 x10 hn ht hF h22 hX hI
      have hql := Nat.le_trans (bfV.len hm (bfV_l hI.1.1)) hpl
      obtain ⟨-, i1, -, i2, -⟩ := id hI
      have hs := hI.fin1 one (by omega) (by omega)
      obtain rfl : turn = 60802 := by omega
      refine v_iload dX1_spread_21 rfl ?_
      refine v_ldc dX1_spread_23 cn_RX1_66 ?_
      refine v_icmp_ge dX1_spread_25 (fun zc25 => ?_) (fun zc25 => ?_)
      · exact fin τ q E h i U _ _ _ _ _ _ _ hF h22 hX hI hs
      · exact absurd (show (60802 : Int32) ≤ nI 60802 by decide) zc25
    | succ n ih =>
      intro turn q E h i U τ x7 x8 x9 x10 hn ht hF h22 hX hI
      have hql := Nat.le_trans (bfV.len hm (bfV_l hI.1.1)) hpl
      have hEl := show_len hm hm2 (bfV_r hI.1.1) hI.1.2.2.1
      obtain ⟨hC, i1, i2, i3, i4, i5, i6, i7⟩ := id hI
      have hcn : τ.1 22 3 = nI q.length := hX.1.1
      have hst : τ.1 33 3 = nI src.length := (hSt τ hF).1
      have hen : τ.1 33 6 = nI E.length := hX.2.1.1
      have hap := hAt τ hF
      have hfin1 := fun hh hi => fin τ q E h i U (some (.int (nI i))) (some (.int (nI h))) (some (.int (nI turn))) (some (.int 1)) x8 x9 x10 hF h22 hX hI (hI.fin1 one hh hi)
      -- enough
      have enough : ∀ idl : Int32, (one = true ∧ 0 < E.length → True) → (¬ (one = true ∧ 0 < E.length) → V mX1_spread (D + 4) 75 [some (.ref 33), some (.ref r), some (.int (nI g)), some (.int (if one = true then 1 else 0)), some (.int (nI i)), some (.int (nI h)), some (.int (nI turn)), some (.int idl), x8, x9, x10] [] τ Q) → V mX1_spread (D + 4) 61 [some (.ref 33), some (.ref r), some (.int (nI g)), some (.int (if one = true then 1 else 0)), some (.int (nI i)), some (.int (nI h)), some (.int (nI turn)), some (.int idl), x8, x9, x10] [] τ Q := by
        intro idl _ hk
        by_cases ho : one = true
        · rw [if_pos ho] at hk ⊢
          rcases Nat.eq_zero_or_pos E.length with h0 | h0
          · have hk2 := hk (fun hh => by omega)
            refine v_iload_n dX1_spread_61 rfl ?_
            refine v_if_eq dX1_spread_62 (fun zc62 => ?_) (fun zc62 => ?_)
            · exact absurd zc62 (by decide)
            · refine v_aload_n dX1_spread_65 rfl ?_
              refine v_getI dX1_spread_66 fl_RX1_28 rfl ?_
              rw [hen, h0]
              refine v_if_le dX1_spread_69 (fun zc69 => ?_) (fun zc69 => ?_)
              · exact hk2
              · exact absurd (show nI 0 ≤ 0 by decide) zc69
          · have hs := hI.fin2 (e0 := E[0]) (List.getElem?_eq_getElem h0)
            have h221 := fin τ q E h i U (some (.int (nI i))) (some (.int (nI h))) (some (.int (nI turn))) (some (.int idl)) x8 x9 x10 hF h22 hX hI (by rw [ho]; exact hs)
            rw [if_pos ho] at h221
            refine v_iload_n dX1_spread_61 rfl ?_
            refine v_if_eq dX1_spread_62 (fun zc62 => ?_) (fun zc62 => ?_)
            · exact absurd zc62 (by decide)
            · refine v_aload_n dX1_spread_65 rfl ?_
              refine v_getI dX1_spread_66 fl_RX1_28 rfl ?_
              rw [hen]
              refine v_if_le dX1_spread_69 (fun zc69 => ?_) (fun zc69 => ?_)
              · exact absurd zc69 (nI_ge (a := 0) (by omega) (by omega))
              · refine v_goto dX1_spread_72 ?_
                exact h221
        · rw [if_neg ho] at hk ⊢
          have hk2 := hk (fun hh => ho hh.1)
          refine v_iload_n dX1_spread_61 rfl ?_
          refine v_if_eq dX1_spread_62 (fun zc62 => ?_) (fun zc62 => ?_)
          · exact hk2
          · exact absurd rfl zc62
      rcases Nat.lt_or_ge h q.length with hlt | hge
      · -- a state's turn
        have hgh : q[h]? = some q[h] := List.getElem?_eq_getElem hlt
        obtain ⟨c1, c2⟩ := hX.1.2 h _ hgh
        have hUh := i4 _ hgh
        have hdh : q[h].2.2.2 ≤ U := hC.2.2.2.2.2.1 _ (List.mem_append_left _ (List.getElem_mem hlt))
        have hvh : vS R.2.2.2.1 q[h].1 := hC.1.2 _ (List.mem_append_left _ (List.getElem_mem hlt))
        have keys : ∀ j k i2 q2 E2 τ, k + j = R.2.2.2.2.length → i ≤ i2 → i2 ≤ src.length → (∀ x, src[i2]? = some x → q[h].2.2.2 + 1 < x.2.2.2) → YF c σ τ → τ.1 22 4 = 0 → CX τ c q2 E2 → Cr R src g q2 E2 (q[h].2.2.2 + 1) → (∀ (u : Nat) (x : En), u < i2 → src[u]? = some x → ∃ e' ∈ q2 ++ E2, e'.1 = x.1 ∧ e'.2.2.2 ≤ x.2.2.2) → q <+: q2 → E <+: E2 → (∀ k', k' < k → ∃ e' ∈ q2 ++ E2, e'.1 = nx R q[h].1 k' ∧ e'.2.2.2 ≤ q[h].2.2.2 + 1) →
            V mX1_spread (D + 4) 182 [some (.ref 33), some (.ref r), some (.int (nI g)), some (.int (if one = true then 1 else 0)), some (.int (nI i2)), some (.int (nI h)), some (.int (nI turn)), some (.int 0), some (.int (nI (q[h].2.2.2 + 1))), some (.int (nI (ps q[h].1))), some (.int (nI k))] [] τ Q := by
          intro j
          induction j with
          | zero =>
            intro k i2 q2 E2 τ hk hi2 hi2l hex hF h22 hX hC2 h7 hp1 hp2 hkk
            obtain rfl : k = R.2.2.2.2.length := by omega
            have h4 := (hRt τ hF).2.2.2.2.1
            have hI2 : HI R src g B0 q2 E2 (h + 1) i2 (q[h].2.2.2 + 1) := by
              have hl1 := hp1.length_le
              refine ⟨hC2, hi2l, fun u x hu hx => ?_, by omega, fun e he => ?_, fun u e k hu he hk => ?_, h7, by omega⟩
              · have hxu := (List.getElem?_eq_some_iff.mp hx).1
                have h3 := hex _ (List.getElem?_eq_getElem (show i2 < src.length by omega))
                have h5 := hss i2 u _ x hu (List.getElem?_eq_getElem (show i2 < src.length by omega)) hx
                omega
              · have := hC2.2.2.2.1 h (h + 1) _ e (by omega) (pre_get hp1 hgh) he
                omega
              · rcases Nat.lt_or_ge u h with h1 | h1
                · have he2 : q[u]? = some e := by
                    obtain ⟨w, hw⟩ := hp1
                    rw [← hw, List.getElem?_append_left (by omega)] at he
                    exact he
                  obtain ⟨e', g1, g2, g3⟩ := i5 u e k h1 he2 hk
                  exact ⟨e', pre_app hp1 hp2 g1, g2, g3⟩
                · have eu : u = h := by omega
                  rw [eu, pre_get hp1 hgh] at he
                  rw [← Option.some.inj he]
                  exact hkk k hk
            have hnx := fun y7 y8 y9 y10 => ih (turn + 1) q2 E2 (h + 1) i2 _ τ y7 y8 y9 y10 (by omega) (by omega) hF h22 hX hI2
            refine v_iload dX1_spread_182 rfl ?_
            refine v_aload_n dX1_spread_184 rfl ?_
            refine v_getI dX1_spread_185 fl_RX1_80 hr.lay ?_
            rw [h4]
            refine v_icmp_ge dX1_spread_188 (fun zc188 => ?_) (fun zc188 => ?_)
            · refine v_iinc dX1_spread_212 rfl (Nat.le_of_ble_eq_true rfl) rfl ?_
              refine v_iinc dX1_spread_215 rfl (Nat.le_of_ble_eq_true rfl) rfl ?_
              refine v_goto dX1_spread_218 ?_
              rw [nI_1, nI_1]
              exact hnx _ _ _ _
            · exact absurd (nI_le (Nat.le_refl _) (by omega)) zc188
          | succ j ihk =>
            intro k i2 q2 E2 τ hk hi2 hi2l hex hF h22 hX hC2 h7 hp1 hp2 hkk
            have hkl : k < R.2.2.2.2.length := by omega
            have hRR := hRt τ hF
            have h4 := hRR.2.2.2.2.1
            have hky : R.2.2.2.2[k]? = some (R.2.2.2.2.getD k (0, 0, 0, 0)) := by rw [List.getD, List.getElem?_eq_getElem hkl]; rfl
            have hsnd : Snd R src (nx R q[h].1 k) (q[h].2.2.2 + 1) := by
              obtain ⟨y, y1, ks, y2, y3, y4⟩ := hC.2.2.2.2.2.2 _ (List.mem_append_left _ (List.getElem_mem hlt))
              exact ⟨y, y1, ks ++ [k], okP_app y2 hkl, by rw [goP_app, y3], by rw [List.length_append, List.length_singleton]; omega⟩
            refine v_iload dX1_spread_182 rfl ?_
            refine v_aload_n dX1_spread_184 rfl ?_
            refine v_getI dX1_spread_185 fl_RX1_80 hr.lay ?_
            rw [h4]
            refine v_icmp_ge dX1_spread_188 (fun zc188 => ?_) (fun zc188 => ?_)
            · exact absurd zc188 (nI_ge (by omega) (by omega))
            · refine v_aload_n dX1_spread_191 rfl ?_
              refine v_aload_n dX1_spread_192 rfl ?_
              refine v_iload dX1_spread_193 rfl ?_
              refine v_iload dX1_spread_195 rfl ?_
              refine v_callV2 dX1_spread_197 mv_RX1_85 hr.lay rfl (Nat.le_of_ble_eq_true rfl) ?_
              refine ok_afterStroke hr hRR (by decide) hv hvh hky ?_
              rw [show rk_str R q[h].1 (R.2.2.2.2.getD k (0, 0, 0, 0)) = nx R q[h].1 k from rfl]
              show V _ _ _ _ (_ :: _) _ _
              refine v_iload dX1_spread_200 rfl ?_
              refine v_iload_n dX1_spread_202 rfl ?_
              refine v_callV3 dX1_spread_203 mv_RX1_73 rfl rfl (Nat.le_of_ble_eq_true rfl) ?_
              refine ok_chmeet (hAt τ hF) hm hm2 hX hC2 (nx_v hv hkl hvh) (by omega) (Nat.le_refl _) hsnd (fun τ2 q3 E3 f1 f2 f3 f4 f5 f6 f7 => ?_)
              have hnx := ihk (k + 1) i2 q3 E3 τ2 (by omega) hi2 hi2l hex (hF.tr f1) (by rw [f1.1 _ _ (by omega)]; exact h22) f2 f3 (fun u x hu hx => by
                obtain ⟨e', g1, g2, g3⟩ := h7 u x hu hx
                exact ⟨e', pre_app f4 f5 g1, g2, g3⟩) (hp1.trans f4) (hp2.trans f5) (fun k' hk' => by
                rcases Nat.lt_or_ge k' k with h1 | h1
                · obtain ⟨e', g1, g2, g3⟩ := hkk k' h1
                  exact ⟨e', pre_app f4 f5 g1, g2, g3⟩
                · have ek : k' = k := by omega
                  rw [ek]; exact f6)
              show V _ _ _ _ _ _ _
              refine v_iinc dX1_spread_206 rfl (Nat.le_of_ble_eq_true rfl) rfl ?_
              refine v_goto dX1_spread_209 ?_
              rw [nI_1]
              exact hnx
        have h75 : V mX1_spread (D + 4) 75 [some (.ref 33), some (.ref r), some (.int (nI g)), some (.int (if one = true then 1 else 0)), some (.int (nI i)), some (.int (nI h)), some (.int (nI turn)), some (.int 0), x8, x9, x10] [] τ Q := by
          have hj := join (q[h].2.2.2 + 1) turn h i q E 0 (by omega) (src.length - i) i U q E τ x9 x10 (by omega) (Nat.le_refl _) hF h22 hX hC (by omega) i2 i6 List.prefix_rfl List.prefix_rfl (fun u e x hu he hx => by rw [List.getElem?_eq_none hu] at he; cases he) (fun i2 b q2 E2 τ2 y9 y10 k1 k2 k3 k4 k5 k6 k7 k8 k9 k10 k11 _ => by
            obtain ⟨d1, -⟩ := k6.1.2 h _ (pre_get k10 hgh)
            have hkeys := fun _ : Unit => keys R.2.2.2.2.length 0 i2 q2 E2 τ2 (by omega) k1 k2 k3 k4 k5 k6 (k7.up k8) k9 k10 k11 (fun k' hk' => absurd hk' (by omega))
            refine v_iload dX1_spread_160 rfl ?_
            refine v_if_ne dX1_spread_162 (fun zc162 => ?_) (fun zc162 => ?_)
            · exact absurd rfl zc162
            · refine v_aload_n dX1_spread_165 rfl ?_
              refine v_getR (q := 22) dX1_spread_166 fl_RX1_31 rfl rfl ?_
              refine v_getR (q := 24) dX1_spread_169 fl_RX1_77 rfl rfl ?_
              refine v_iload dX1_spread_172 rfl ?_
              refine v_callS2 dX1_spread_174 ms_RX1_50 (Nat.le_of_ble_eq_true rfl) ?_
              refine ok_at rfl (by decide) ?_
              rw [vAt_nI (by omega) (by omega), d1]
              show V _ _ _ _ (_ :: _) _ _
              refine v_istore dX1_spread_177 (Nat.le_of_ble_eq_true rfl) rfl ?_
              refine v_iconst dX1_spread_179 ?_
              refine v_istore dX1_spread_180 (Nat.le_of_ble_eq_true rfl) rfl ?_
              exact hkeys ())
          refine v_iload dX1_spread_75 rfl ?_
          refine v_if_eq dX1_spread_77 (fun zc77 => ?_) (fun zc77 => ?_)
          · refine v_aload_n dX1_spread_92 rfl ?_
            refine v_getR (q := 22) dX1_spread_93 fl_RX1_31 rfl rfl ?_
            refine v_getR (q := 25) dX1_spread_96 fl_RX1_70 rfl rfl ?_
            refine v_iload dX1_spread_99 rfl ?_
            refine v_callS2 dX1_spread_101 ms_RX1_50 (Nat.le_of_ble_eq_true rfl) ?_
            refine ok_at rfl (by decide) ?_
            rw [vAt_nI (by omega) (by omega), c2]
            show V _ _ _ _ (_ :: _) _ _
            refine v_iconst dX1_spread_104 ?_
            refine v_iadd dX1_spread_105 ?_
            rw [nI_1]
            refine v_istore dX1_spread_106 (Nat.le_of_ble_eq_true rfl) rfl ?_
            exact hj
          · exact absurd rfl zc77
        have h61 := enough 0 (fun _ => trivial) (fun _ => h75)
        refine v_iload dX1_spread_21 rfl ?_
        refine v_ldc dX1_spread_23 cn_RX1_66 ?_
        refine v_icmp_ge dX1_spread_25 (fun zc25 => ?_) (fun zc25 => ?_)
        · exact absurd zc25 (nI_ge (b := 60802) (by omega) (by omega))
        · refine v_iload dX1_spread_28 rfl ?_
          refine v_aload_n dX1_spread_30 rfl ?_
          refine v_getR (q := 22) dX1_spread_31 fl_RX1_31 rfl rfl ?_
          refine v_getI dX1_spread_34 fl_RX1_67 rfl ?_
          rw [hcn]
          refine v_icmp_lt dX1_spread_37 (fun zc37 => ?_) (fun zc37 => ?_)
          · refine v_iconst dX1_spread_44 ?_
            refine v_istore dX1_spread_45 (Nat.le_of_ble_eq_true rfl) rfl ?_
            refine v_iload dX1_spread_47 rfl ?_
            refine v_if_eq dX1_spread_49 (fun zc49 => ?_) (fun zc49 => ?_)
            · exact h61
            · exact absurd rfl zc49
          · exact absurd (nI_lt hlt (by omega)) zc37
      · -- none waits
        have hhq : h = q.length := by omega
        rcases Nat.lt_or_ge i src.length with hil | hil
        · have hgi : src[i]? = some src[i] := List.getElem?_eq_getElem hil
          obtain ⟨c1, c2⟩ := (hSt τ hF).2 i _ hgi
          have hdi := hsd _ (List.getElem_mem hil)
          have hUi := i2 i _ (Nat.le_refl _) hgi
          have h75 : V mX1_spread (D + 4) 75 [some (.ref 33), some (.ref r), some (.int (nI g)), some (.int (if one = true then 1 else 0)), some (.int (nI i)), some (.int (nI h)), some (.int (nI turn)), some (.int 1), x8, x9, x10] [] τ Q := by
            have hj := join src[i].2.2.2 turn h i q E 1 (by omega) (src.length - i) i U q E τ x9 x10 (by omega) (Nat.le_refl _) hF h22 hX hC hUi i2 i6 List.prefix_rfl List.prefix_rfl (fun u e x hu he hx => by rw [List.getElem?_eq_none hu] at he; cases he) (fun i2 b q2 E2 τ2 y9 y10 k1 k2 k3 k4 k5 k6 k7 k8 k9 k10 k11 k12 => by
              have hii : i < i2 := by
                rcases Nat.lt_or_ge i i2 with h1 | h1
                · exact h1
                · have ei : i2 = i := by omega
                  rw [ei] at k3
                  exact absurd (k3 _ hgi) (by omega)
              have hl1 := k10.length_le
              have hI2 : HI R src g B0 q2 E2 h i2 src[i].2.2.2 := by
                refine ⟨k7.up k8, k2, fun u x hu hx => ?_, by omega, fun e he => ?_, fun u e k hu he hk => ?_, k9, by omega⟩
                · have hxu := (List.getElem?_eq_some_iff.mp hx).1
                  have h3 := k3 _ (List.getElem?_eq_getElem (show i2 < src.length by omega))
                  have h5 := hss i2 u _ x hu (List.getElem?_eq_getElem (show i2 < src.length by omega)) hx
                  omega
                · have := k12 h e _ (by omega) he hgi
                  omega
                · have he2 : q[u]? = some e := by
                    obtain ⟨w, hw⟩ := k10
                    rw [← hw, List.getElem?_append_left (by omega)] at he
                    exact he
                  obtain ⟨e', g1, g2, g3⟩ := i5 u e k hu he2 hk
                  exact ⟨e', pre_app k10 k11 g1, g2, g3⟩
              have hnx := ih (turn + 1) q2 E2 h i2 _ τ2 (some (.int 1)) (some (.int (nI src[i].2.2.2))) y9 y10 (by omega) (by omega) k4 k5 k6 hI2
              refine v_iload dX1_spread_160 rfl ?_
              refine v_if_ne dX1_spread_162 (fun zc162 => ?_) (fun zc162 => ?_)
              · refine v_iinc dX1_spread_215 rfl (Nat.le_of_ble_eq_true rfl) rfl ?_
                refine v_goto dX1_spread_218 ?_
                rw [nI_1]
                exact hnx
              · exact absurd zc162 (by decide))
            refine v_iload dX1_spread_75 rfl ?_
            refine v_if_eq dX1_spread_77 (fun zc77 => ?_) (fun zc77 => ?_)
            · exact absurd zc77 (by decide)
            · refine v_aload_n dX1_spread_80 rfl ?_
              refine v_getM dX1_spread_81 fl_RX1_15 rfl ?_
              rw [hap.2.2.1]
              refine v_iload dX1_spread_84 rfl ?_
              refine v_callS2 dX1_spread_86 ms_RX1_50 (Nat.le_of_ble_eq_true rfl) ?_
              refine ok_at hA.lb (by decide) ?_
              rw [vAt_nI (by omega) (by omega), c2]
              show V _ _ _ _ (_ :: _) _ _
              refine v_goto dX1_spread_89 ?_
              refine v_istore dX1_spread_106 (Nat.le_of_ble_eq_true rfl) rfl ?_
              exact hj
          have h61 := enough 1 (fun _ => trivial) (fun _ => h75)
          refine v_iload dX1_spread_21 rfl ?_
          refine v_ldc dX1_spread_23 cn_RX1_66 ?_
          refine v_icmp_ge dX1_spread_25 (fun zc25 => ?_) (fun zc25 => ?_)
          · exact absurd zc25 (nI_ge (b := 60802) (by omega) (by omega))
          · refine v_iload dX1_spread_28 rfl ?_
            refine v_aload_n dX1_spread_30 rfl ?_
            refine v_getR (q := 22) dX1_spread_31 fl_RX1_31 rfl rfl ?_
            refine v_getI dX1_spread_34 fl_RX1_67 rfl ?_
            rw [hcn]
            refine v_icmp_lt dX1_spread_37 (fun zc37 => ?_) (fun zc37 => ?_)
            · exact absurd zc37 (nI_nlt (by omega) (by omega))
            · refine v_iconst dX1_spread_40 ?_
              refine v_goto dX1_spread_41 ?_
              refine v_istore dX1_spread_45 (Nat.le_of_ble_eq_true rfl) rfl ?_
              refine v_iload dX1_spread_47 rfl ?_
              refine v_if_eq dX1_spread_49 (fun zc49 => ?_) (fun zc49 => ?_)
              · exact absurd zc49 (by decide)
              · refine v_iload dX1_spread_52 rfl ?_
                refine v_aload_n dX1_spread_54 rfl ?_
                refine v_getI dX1_spread_55 fl_RX1_18 rfl ?_
                rw [hst]
                refine v_icmp_ge dX1_spread_58 (fun zc58 => ?_) (fun zc58 => ?_)
                · exact absurd zc58 (nI_ge (by omega) (by omega))
                · exact h61
        · have h221 := hfin1 hhq (by omega)
          refine v_iload dX1_spread_21 rfl ?_
          refine v_ldc dX1_spread_23 cn_RX1_66 ?_
          refine v_icmp_ge dX1_spread_25 (fun zc25 => ?_) (fun zc25 => ?_)
          · exact absurd zc25 (nI_ge (b := 60802) (by omega) (by omega))
          · refine v_iload dX1_spread_28 rfl ?_
            refine v_aload_n dX1_spread_30 rfl ?_
            refine v_getR (q := 22) dX1_spread_31 fl_RX1_31 rfl rfl ?_
            refine v_getI dX1_spread_34 fl_RX1_67 rfl ?_
            rw [hcn]
            refine v_icmp_lt dX1_spread_37 (fun zc37 => ?_) (fun zc37 => ?_)
            · exact absurd zc37 (nI_nlt (by omega) (by omega))
            · refine v_iconst dX1_spread_40 ?_
              refine v_goto dX1_spread_41 ?_
              refine v_istore dX1_spread_45 (Nat.le_of_ble_eq_true rfl) rfl ?_
              refine v_iload dX1_spread_47 rfl ?_
              refine v_if_eq dX1_spread_49 (fun zc49 => ?_) (fun zc49 => ?_)
              · exact absurd zc49 (by decide)
              · refine v_iload dX1_spread_52 rfl ?_
                refine v_aload_n dX1_spread_54 rfl ?_
                refine v_getI dX1_spread_55 fl_RX1_18 rfl ?_
                rw [hst]
                refine v_icmp_ge dX1_spread_58 (fun zc58 => ?_) (fun zc58 => ?_)
                · exact h221
                · exact absurd (nI_le (by omega) (by omega)) zc58
  obtain ⟨τ0, hτ0⟩ : ∃ τ0, τ0 = setI (setI (setI (fillL σ 23 2048 0) 22 3 0) 22 4 0) 33 6 0 := ⟨_, rfl⟩
  have hF0 : YF c σ τ0 := ⟨fun p b h => by
    rw [hτ0, setI_ne (by omega), setI_ne (by omega), setI_ne (by omega)]
    rfl, by rw [hτ0]; rfl, fun p h => by
    rw [hτ0]
    show (fillL σ 23 2048 0).2.1 p = _
    funext b
    exact if_neg (fun e => h e.1)⟩
  have hs0 : ∀ n, n < 131072 → seen τ0 n = false := fun n hn => by
    rw [hτ0]
    show ((fillL σ 23 2048 0).2.1 23 (n / 64)).toBitVec.getLsbD (n % 64) = false
    rw [show (fillL σ 23 2048 0).2.1 23 (n / 64) = 0 from if_pos ⟨rfl, by omega⟩]
    exact BitVec.getLsbD_zero
  have h22 : τ0.1 22 4 = 0 := by rw [hτ0, setI_ne (by omega), setI_same]
  have hX0 : CX τ0 c [] [] := by
    refine ⟨⟨?_, fun j e hj => by simp at hj⟩, ⟨?_, fun j e hj => by simp at hj⟩, fun n hn => ?_⟩
    · rw [hτ0, setI_ne (by omega), setI_ne (by omega), setI_same]; rfl
    · rw [hτ0, setI_same]; rfl
    · rw [hs0 n hn]
      constructor
      · intro h; cases h
      · intro ⟨e, he, _⟩; exact absurd he List.not_mem_nil
  have hnm : ∀ (P : En → Prop), ∀ e ∈ ([] : List En) ++ [], P e := fun P e he => absurd he List.not_mem_nil
  have hI0 : HI R src g B0 [] [] 0 0 0 := ⟨⟨⟨by simp, hnm _⟩, fun e he => absurd he List.not_mem_nil, fun e he => absurd he List.not_mem_nil, fun i j e e' _ he => by simp at he, fun i j e e' _ he => by simp at he, hnm _, hnm _⟩, Nat.zero_le _, fun _ _ _ _ => Nat.zero_le _, Nat.zero_le _, fun e he => by simp at he, fun j e k hj => absurd hj (Nat.not_lt_zero _), fun j x hj => absurd hj (Nat.not_lt_zero _), Nat.zero_le _⟩
  refine ok_enter rfl (Nat.le_of_ble_eq_true rfl) ?_
  refine v_aload_n dX1_spread_0 rfl ?_
  refine v_getR (q := 22) dX1_spread_1 fl_RX1_31 rfl rfl ?_
  refine v_callV0 dX1_spread_4 mv_RX1_61 rfl rfl (Nat.le_of_ble_eq_true rfl) ?_
  refine ok_rowsEmpty ?_
  show V _ _ _ _ _ _ _
  refine v_aload_n dX1_spread_7 rfl ?_
  refine v_iconst dX1_spread_8 ?_
  refine v_putI dX1_spread_9 fp_RX1_28 rfl ?_
  rw [← hτ0]
  refine v_iconst dX1_spread_12 ?_
  refine v_istore dX1_spread_13 (Nat.le_of_ble_eq_true rfl) rfl ?_
  refine v_iconst dX1_spread_15 ?_
  refine v_istore dX1_spread_16 (Nat.le_of_ble_eq_true rfl) rfl ?_
  refine v_iconst dX1_spread_18 ?_
  refine v_istore dX1_spread_19 (Nat.le_of_ble_eq_true rfl) rfl ?_
  exact loop 60802 0 [] [] 0 0 0 τ0 _ _ _ _ (by omega) (by omega) hF0 h22 hX0 hI0
end CS
