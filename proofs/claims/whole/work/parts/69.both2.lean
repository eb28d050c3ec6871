/-! ===== more, drift, images, the text: both sides ===== -/
section B3
variable {σ τ : Wd} {r r' a c a' c' : Nat} {T T' : List Nat} {R : Rk} {y y' : Pr} {es es' : List (Nat × Nat)} {fa fa' : Int32} {img : Nat → Option Pr}
theorem b_more (x : Int32) : Both mX11_more mX12_more [.int x] := by
  rintro σ ⟨r, r', a, c, T, R, y, es, fa, img, hC, hM, hv⟩
  obtain ⟨v1, v2, v3, v4, v5⟩ := hv.2.2.1
  refine ok_cmore (hC.cp hv) hC.2.2.2.1.2.2.2 v4 v5 hC.2.2.2.2.2.2.2.1 hC.2.2.2.2.2.2.1 (fun τ f1 f2 f3 f4 => ⟨_, rfl, ?_⟩)
  have hM1 : MSt τ T R y es fa img := hM.cl (fun p b hp => f1.1 p b (by have := hC.1.1; rcases this with rfl | rfl <;> omega)) (fun p hp => f1.2.2 p (by omega))
  have hC1 : CSt τ r r' a c T R y es fa img := by
    obtain ⟨⟨b1, b2, b3, b4, b5, b6⟩, ⟨b7, b8⟩, b9, b10, b11, b12, c1, c2, c3⟩ := hC
    have hr : r + 4 < 13 ∧ 3 ≤ r := by rcases b1 with rfl | rfl <;> omega
    have h1 : ∀ p b, p < 22 → ¬ (r ≤ p ∧ p ≤ r + 4) → τ.1 p b = σ.1 p b := fun p b hp hh => f1.1 p b (by omega)
    refine ⟨⟨b1, b2, b3, by rw [f1.2.1]; exact b4, by rw [f1.2.1]; exact b5, b6.kp (by rw [f1.2.1])⟩, ⟨b7.kp (h1 _ _ (by omega) (by omega)) (fun b => h1 _ _ (by omega) (by omega)), by rw [h1 _ _ (by omega) (by omega)]; exact b8⟩, f2.2.2.1, b10.kept (fun q b q1 q2 _ => h1 _ _ (by omega) (by omega)), ⟨by rw [h1 _ _ (by omega) (by omega)]; exact b11.1, fun i e hi => by rw [h1 _ _ (by omega) (by omega), h1 _ _ (by omega) (by omega)]; exact b11.2 i e hi⟩, fun i hi => ?_, f3, f4, c3.kp (f1.1 _ _ (by omega)) (fun b => f1.1 _ _ (by omega))⟩
    obtain ⟨d1, d2⟩ := b12 i hi
    refine ⟨fun hn => by rw [h1 _ _ (by omega) (by omega)]; exact d1 hn, fun z hz => ?_⟩
    obtain ⟨d3, d4⟩ := d2 z hz
    exact ⟨by rw [h1 _ _ (by omega) (by omega)]; exact d3, d4.kept (fun q b q1 q2 _ => h1 _ _ (by omega) (by omega))⟩
  refine ok_mmore (hM1.mp hv) hM1.mrt v4 v5 (fun τ2 g1 => ⟨rfl, ?_⟩)
  refine fin_q (hC1.m (fun p b hp => g1.1 p b (by omega)) (fun p _ => by rw [g1.2]) (fun p _ => by rw [g1.2])) ?_ hv
  have hmp := g1.mp (hM1.mp hv)
  obtain ⟨⟨b1, b2⟩, ⟨b3, b4⟩, ⟨⟨c1, c2, c3, c4⟩, c5, c6, c7, c8⟩, ⟨b6, b7⟩, b8⟩ := hM1
  have h1 : ∀ p b, p < 53 → p ≠ 45 → τ2.1 p b = τ.1 p b := fun p b hp hh => g1.1 p b (by omega)
  refine ⟨⟨⟨by rw [h1 _ _ (by omega) (by omega)]; exact b1.1, fun j x hj => by rw [h1 _ _ (by omega) (by omega)]; exact b1.2 j x hj⟩, by rw [h1 _ _ (by omega) (by omega)]; exact b2⟩, ⟨hmp.1, hmp.2.1⟩,
    ⟨⟨by rw [h1 _ _ (by omega) (by omega)]; exact c1, by rw [h1 _ _ (by omega) (by omega)]; exact c2, by rw [h1 _ _ (by omega) (by omega)]; exact c3, by rw [h1 _ _ (by omega) (by omega)]; exact c4⟩, by rw [h1 _ _ (by omega) (by omega)]; exact c5, by rw [g1.2]; exact c6, by rw [h1 _ _ (by omega) (by omega)]; exact c7, fun k v hk => by rw [h1 _ _ (by omega) (by omega)]; exact c8 k v hk⟩,
    ⟨by rw [h1 _ _ (by omega) (by omega)]; exact b6, fun i e hi => by rw [h1 _ _ (by omega) (by omega), h1 _ _ (by omega) (by omega)]; exact b7 i e hi⟩, fun i hi => ?_⟩
  obtain ⟨d1, d2⟩ := b8 i hi
  refine ⟨fun hn => by rw [h1 _ _ (by omega) (by omega)]; exact d1 hn, fun z hz => ?_⟩
  obtain ⟨d3, e1, e2, e3, e4, e5⟩ := d2 z hz
  exact ⟨by rw [h1 _ _ (by omega) (by omega)]; exact d3, by rw [h1 _ _ (by omega) (by omega)]; exact e1, by rw [h1 _ _ (by omega) (by omega)]; exact e2, by rw [g1.2]; exact e3, by rw [h1 _ _ (by omega) (by omega)]; exact e4, fun k v hk => by rw [h1 _ _ (by omega) (by omega)]; exact e5 k v hk⟩
theorem nSeed_lt {z : Nat} : nSeed z < 2147483648 := Nat.mod_lt _ (by decide)
theorem drS_v (hv : vR 8 R) (h0 : 0 < R.2.2.2.2.length) : ∀ (n : Nat) (x : St × Int32 × Nat), vS R.2.2.2.1 x.1 → x.2.2 < 2147483648 → vS R.2.2.2.1 (drS R n x).1 ∧ (drS R n x).2.2 < 2147483648
  | 0, x, h1, h2 => ⟨h1, h2⟩
  | n + 1, x, h1, h2 => drS_v hv h0 n _ (nx_v hv (Nat.mod_lt _ h0) h1) nSeed_lt
theorem b_drift (x : Int32) : Both mX11_drift mX12_drift [.int x] := by
  rintro σ ⟨r, r', a, c, T, R, y, es, fa, img, hC, hM, hv⟩
  obtain ⟨p0, p1, p2, p3, p4⟩ := hC.2.2.2.1
  obtain ⟨v1, v2, v3, v4, v5⟩ := hv.2.2.1
  refine ok_cdrift (hC.cp hv) p2 v3 (fun h => ⟨_, rfl, ok_mdrift (hM.mp hv) hM.2.2.1.2.2.1 v3 (fun _ => ⟨rfl, fin_q hC hM hv⟩) (fun h' => absurd h' h) (fun h' => absurd h' h)⟩) (fun h h2 => ⟨_, rfl, ok_mdrift (hM.mp hv) hM.2.2.1.2.2.1 v3 (fun h' => absurd h h') (fun _ _ => ⟨rfl, fin_q hC hM hv⟩) (fun _ h' => absurd h' (by omega))⟩) (fun h h2 => ⟨_, rfl, ?_⟩)
  rw [p1]
  obtain ⟨d, hd⟩ : ∃ d, d = drS R x.toInt.toNat (y.1, y.2.1, y.2.2.1) := ⟨_, rfl⟩
  have hdv := drS_v hv.2.1 h2 x.toInt.toNat (y.1, y.2.1, y.2.2.1) v1 v3
  rw [← hd] at hdv ⊢
  have e1 : ∀ p b, ¬ (p = 13 ∧ b ≤ 2) → (wP3 σ d).1 p b = σ.1 p b := fun p b h => by unfold wP3; rw [setI_ne (by omega), setI_ne (by omega), setI_ne (by omega)]
  have hC1 : CSt (wChg (wP3 σ d)) r r' a c T R (d.1, d.2.1, d.2.2, y.2.2.2) es fa img := hC.pr (fun p b h1 h2 h3 => by rw [wC1 (by omega), e1 _ _ (by omega)]) (fun p => rfl) ⟨by rw [wC1 (by omega)]; unfold wP3; rw [setI_ne (by omega), setI_ne (by omega), setI_same], by rw [wC1 (by omega)]; unfold wP3; rw [setI_ne (by omega), setI_same], by rw [wC1 (by omega)]; unfold wP3; rw [setI_same], by rw [wC1 (by omega), e1 _ _ (by omega)]; exact p3, fun i v hi => by rw [wC1 (by omega), e1 _ _ (by omega)]; exact p4 i v hi⟩ (st0 wC5 wC4) (mo0 wC6) (co0 wC7)
  have hM1 : MSt (wChg (wP3 σ d)) T R y es fa img := hM.cl (fun p b hp => by rw [wC1 (by omega), e1 _ _ (by omega)]) (fun p hp => rfl)
  obtain ⟨m0, m1, m2, m3, m4⟩ := hM1.2.2.1
  refine ok_mdrift (hM1.mp hv) m2 v3 (fun h' => absurd h h') (fun _ h' => absurd h' (by omega)) (fun _ _ => ?_)
  rw [m1, ← hd]
  refine ⟨rfl, fin_q (hC1.m (fun p b hp => wM3_o (by omega)) (fun p hp => setL_o (by omega)) (fun p _ => rfl)) (hM1.pr (y' := (d.1, d.2.1, d.2.2, y.2.2.2)) (fun p b hp => wM3_o (by omega)) (fun p b hp => if_neg hp) ⟨wM3_S, ?_, setL_same, by rw [wM3_o (by omega)]; exact m3, fun i v hi => by rw [wM3_o (by omega)]; exact m4 i v hi⟩) ⟨hv.1, hv.2.1, ⟨hdv.1, fun hm => ?_, hdv.2, v4, v5⟩, hv.2.2.2⟩⟩
  · show (setI (putS (wChg (wP3 σ d)) d.1) 44 25 d.2.1).1 44 25 = _
    rw [setI_same]
  · rw [R0 hv.2.1 hm] at h2
    exact absurd h2 (Nat.not_lt_zero _)
theorem wB1 {p q b : Nat} (h : b < 4) : (wBec σ p q 6).1 p b = σ.1 q b := if_pos ⟨rfl, h⟩
theorem wB2 {p q b : Nat} (h : b < 6) : (wBec σ p q 6).1 (p + 1) b = σ.1 (q + 1) b := by
  unfold wBec
  dsimp only
  rw [if_neg (by omega), if_pos ⟨rfl, h⟩]
theorem wB0 {p q u b : Nat} (h1 : ¬ (u = p ∧ b < 4)) (h2 : u ≠ p + 1) : (wBec σ p q 6).1 u b = σ.1 u b := by
  unfold wBec
  dsimp only
  rw [if_neg h1, if_neg (fun h => h2 h.1)]
theorem PrC.bec {p q : Nat} (h : PrC σ q y) (hl : y.2.2.2.length ≤ 6) : PrC (wBec σ p q 6) p y := by
  obtain ⟨a1, a2, a3, a4, a5⟩ := h
  exact ⟨by rw [wB1 (by omega)]; exact a1, by rw [wB1 (by omega)]; exact a2, by rw [wB1 (by omega)]; exact a3, by rw [wB1 (by omega)]; exact a4, fun i v hi => by rw [wB2 (by have := (List.getElem?_eq_some_iff.mp hi).1; omega)]; exact a5 i v hi⟩
def upI (img : Nat → Option Pr) (i : Nat) (y : Pr) : Nat → Option Pr := fun j => if j = i then some y else img j
theorem upI_s {i j : Nat} (h : j = i) : upI img i y j = some y := if_pos h
theorem upI_n {i j : Nat} (h : ¬ j = i) : upI img i y j = img j := if_neg h
theorem b_keep (x : Int32) : Both mX11_keep mX12_keep [.int x] := by
  rintro σ ⟨r, r', a, c, T, R, y, es, fa, img, hC, hM, hv⟩
  have hm := hv.2.1.m100
  refine ok_ckeep (fun h0 h1 => ⟨_, rfl, ok_mkeep hM.2.1.1 hm hv.2.2.1 hM.2.2.1 (fun _ _ => ⟨rfl, fin_q hC hM hv⟩) (fun i hi hx => absurd hx (by omega))⟩) (fun i hi hx => ⟨_, rfl, ?_⟩)
  obtain ⟨τ, hτ⟩ : ∃ τ, τ = setI (wBec σ (15 + 2 * i) 13 6) (15 + 2 * i) 4 1 := ⟨_, rfl⟩
  rw [← hτ]
  have e1 : ∀ p b, p ≠ 15 + 2 * i → p ≠ 16 + 2 * i → τ.1 p b = σ.1 p b := fun p b h1 h2 => by rw [hτ, setI_ne (by omega), wB0 (by omega) (by omega)]
  have ht2 : τ.2 = σ.2 := by rw [hτ]; rfl
  have hM1 : MSt τ T R y es fa img := hM.cl (fun p b hp => e1 p b (by omega) (by omega)) (fun p hp => by rw [ht2])
  have hC1 : CSt τ r r' a c T R y es fa (upI img i y) := by
    obtain ⟨⟨b1, b2, b3, b4, b5, b6⟩, ⟨b7, b8⟩, b9, b10, b11, b12, c1, c2, c3⟩ := hC
    have hr : r + 4 < 13 := by rcases b1 with rfl | rfl <;> omega
    refine ⟨⟨b1, b2, b3, by rw [ht2]; exact b4, by rw [ht2]; exact b5, b6.kp (by rw [ht2])⟩, ⟨b7.kp (e1 _ _ (by omega) (by omega)) (fun b => e1 _ _ (by omega) (by omega)), by rw [e1 _ _ (by omega) (by omega)]; exact b8⟩, b9.kept (fun p b q1 q2 => e1 _ _ (by omega) (by omega)), b10.kept (fun q b q1 q2 _ => e1 _ _ (by omega) (by omega)), ⟨by rw [e1 _ _ (by omega) (by omega)]; exact b11.1, fun i e hi => by rw [e1 _ _ (by omega) (by omega), e1 _ _ (by omega) (by omega)]; exact b11.2 i e hi⟩, fun j hj => ?_, c1.kp (fun p b q1 q2 => e1 _ _ (by omega) (by omega)) (by rw [ht2]), c2.kp (fun b _ => e1 _ _ (by omega) (by omega)), c3.kp (e1 _ _ (by omega) (by omega)) (fun b => e1 _ _ (by omega) (by omega))⟩
    by_cases hji : j = i
    · refine ⟨fun hn => (by rw [upI_s hji] at hn; cases hn), fun z hz => ?_⟩
      rw [upI_s hji] at hz
      rw [hji, ← Option.some.inj hz]
      refine ⟨by rw [hτ, setI_same], (b10.bec (p := 15 + 2 * i) hv.2.2.1.2.2.2.1).kept (fun q b q1 q2 q3 => ?_)⟩
      rw [hτ, setI_ne (by omega)]
    · obtain ⟨d1, d2⟩ := b12 j hj
      refine ⟨fun hn => ?_, fun z hz => ?_⟩
      · rw [upI_n hji] at hn
        rw [e1 _ _ (by omega) (by omega)]
        exact d1 hn
      · rw [upI_n hji] at hz
        obtain ⟨d3, d4⟩ := d2 z hz
        exact ⟨by rw [e1 _ _ (by omega) (by omega)]; exact d3, d4.kept (fun q b q1 q2 _ => e1 _ _ (by omega) (by omega))⟩
  refine ok_mkeep hM1.2.1.1 hm hv.2.2.1 hM1.2.2.1 (fun h0 h1 => absurd hx (by omega)) (fun i2 hi2 hx2 τ2 f1 f2 f3 f4 f5 => ⟨rfl, ?_⟩)
  have ei : i2 = i := by omega
  subst ei
  refine ⟨r, r', a, c, T, R, y, es, fa, _, hC1.m (fun p b hp => f1 p b (by omega)) (fun p hp => funext fun b => f2 p b (by omega)) (fun p hp => by rw [f3]), ?_, hv.1, hv.2.1, hv.2.2.1, hv.2.2.2.1, fun j z hz => ?_⟩
  · obtain ⟨⟨b1, b2⟩, ⟨b3, b4⟩, ⟨⟨c1, c2, c3, c4⟩, c5, c6, c7, c8⟩, ⟨b6, b7⟩, b8⟩ := hM1
    have h1 : ∀ p b, p ≠ 50 → p ≠ 52 → τ2.1 p b = τ.1 p b := fun p b hp hh => f1 p b (by omega)
    refine ⟨⟨⟨by rw [h1 _ _ (by omega) (by omega)]; exact b1.1, fun j x hj => by rw [h1 _ _ (by omega) (by omega)]; exact b1.2 j x hj⟩, by rw [h1 _ _ (by omega) (by omega)]; exact b2⟩, ⟨b3.kept (fun b _ => h1 _ _ (by omega) (by omega)) (fun b => h1 _ _ (by omega) (by omega)), by rw [h1 _ _ (by omega) (by omega)]; exact b4⟩,
      ⟨⟨by rw [h1 _ _ (by omega) (by omega)]; exact c1, by rw [h1 _ _ (by omega) (by omega)]; exact c2, by rw [h1 _ _ (by omega) (by omega)]; exact c3, by rw [h1 _ _ (by omega) (by omega)]; exact c4⟩, by rw [h1 _ _ (by omega) (by omega)]; exact c5, by rw [f2 _ _ (by omega)]; exact c6, by rw [h1 _ _ (by omega) (by omega)]; exact c7, fun k v hk => by rw [h1 _ _ (by omega) (by omega)]; exact c8 k v hk⟩,
      ⟨by rw [h1 _ _ (by omega) (by omega)]; exact b6, fun i e hi => by rw [h1 _ _ (by omega) (by omega), h1 _ _ (by omega) (by omega)]; exact b7 i e hi⟩, fun j hj => ?_⟩
    by_cases hji : j = i2
    · refine ⟨fun hn => (by rw [upI_s hji] at hn; cases hn), fun z hz => ?_⟩
      rw [upI_s hji] at hz
      rw [hji, ← Option.some.inj hz]
      exact ⟨f5, f4⟩
    · obtain ⟨d1, d2⟩ := b8 j hj
      refine ⟨fun hn => ?_, fun z hz => ?_⟩
      · rw [upI_n hji] at hn
        rw [f1 _ _ (by omega)]
        exact d1 hn
      · rw [upI_n hji] at hz
        obtain ⟨d3, e1, e2, e3, e4, e5⟩ := d2 z hz
        have hzl : z.2.2.2.length ≤ 6 := (hv.2.2.2.2 j z hz).2.2.2.1
        exact ⟨by rw [f1 _ _ (by omega)]; exact d3, by rw [f1 _ _ (by omega)]; exact e1, by rw [f1 _ _ (by omega)]; exact e2, by rw [f2 _ _ (by omega)]; exact e3, by rw [f1 _ _ (by omega)]; exact e4, fun k v hk => by have := (List.getElem?_eq_some_iff.mp hk).1; rw [f1 _ _ (by omega)]; exact e5 k v hk⟩
  · by_cases hji : j = i2
    · rw [upI_s hji] at hz
      rw [← Option.some.inj hz]
      exact hv.2.2.1
    · rw [upI_n hji] at hz
      exact hv.2.2.2.2 j z hz
theorem b_goBack (x : Int32) : Both mX11_goBack mX12_goBack [.int x] := by
  rintro σ ⟨r, r', a, c, T, R, y, es, fa, img, hC, hM, hv⟩
  have hm := hv.2.1.m100
  have hci := hC.2.2.2.2.2.1
  have hmi := hM.2.2.2.2
  refine ok_cgoBack (fun h0 h1 => ⟨_, rfl, ok_mgoBack (y := y) hM.2.1.1 hm (fun _ _ => ⟨rfl, fin_q hC hM hv⟩) (fun i hi hx => absurd hx (by omega)) (fun i hi hx => absurd hx (by omega))⟩) (fun i hi hx hk => ⟨_, rfl, ?_⟩) (fun i hi hx hk => ⟨_, rfl, ?_⟩)
  · have hn : img i = none := by
      cases h : img i with
      | none => rfl
      | some z =>
        have h1 := ((hci i hi).2 z h).1
        rw [hk] at h1
        exact absurd h1 (by decide)
    refine ok_mgoBack (y := y) hM.2.1.1 hm (fun h0 h1 => absurd hx (by omega)) (fun i2 hi2 hx2 _ => ⟨rfl, fin_q hC hM hv⟩) (fun i2 hi2 hx2 hk2 => ?_)
    have ei : i2 = i := by omega
    subst ei
    exact absurd ((hmi i2 hi2).1 hn) hk2
  · cases hz : img i with
    | none => exact absurd ((hci i hi).1 hz) hk
    | some z =>
      obtain ⟨d3, d4⟩ := (hci i hi).2 z hz
      have hvz := hv.2.2.2.2 i z hz
      have e1 : ∀ p b, p ≠ 13 → p ≠ 14 → (wBec σ 13 (15 + 2 * i) 6).1 p b = σ.1 p b := fun p b h1 h2 => wB0 (by omega) (by omega)
      have hpz : PrC (wChg (wBec σ 13 (15 + 2 * i) 6)) 13 z := (d4.bec (p := 13) hvz.2.2.2.1).kept (fun q b q1 q2 _ => wC1 (by omega))
      have hC1 : CSt (wChg (wBec σ 13 (15 + 2 * i) 6)) r r' a c T R z es fa img := hC.pr (fun p b h1 h2 h3 => by rw [wC1 (by omega), e1 _ _ (by omega) (by omega)]) (fun p => rfl) hpz (st0 wC5 wC4) (mo0 wC6) (co0 wC7)
      have hM1 : MSt (wChg (wBec σ 13 (15 + 2 * i) 6)) T R y es fa img := hM.cl (fun p b hp => by rw [wC1 (by omega), e1 _ _ (by omega) (by omega)]) (fun p hp => rfl)
      refine ok_mgoBack (y := z) hM1.2.1.1 hm (fun h0 h1 => absurd hx (by omega)) (fun i2 hi2 hx2 hk2 => ?_) (fun i2 hi2 hx2 hk2 => ?_)
      · have ei : i2 = i := by omega
        subst ei
        have h1 := ((hM1.2.2.2.2 i2 hi2).2 z hz).1
        rw [hk2] at h1
        exact absurd h1 (by decide)
      · have ei : i2 = i := by omega
        subst ei
        refine ⟨hvz, ((hM1.2.2.2.2 i2 hi2).2 z hz).2, fun τ2 f1 f2 f3 f4 => ⟨rfl, fin_q (hC1.m (fun p b hp => f1 p b (by omega)) (fun p hp => funext fun b => f2 p b (by omega)) (fun p hp => by rw [f3])) (hM1.pr (fun p b hp => f1 p b (by omega)) f2 f4) ⟨hv.1, hv.2.1, hvz, hv.2.2.2⟩⟩⟩
/-- the text has moved -/
theorem CSt.tx (h : CSt σ r r' a c T R y es fa img) (h1 : ∀ p b, p ≠ 1 → p ≠ 2 → ¬ (r' ≤ p ∧ p ≤ r' + 4) → τ.1 p b = σ.1 p b) (h2 : τ.2 = σ.2) (hX : RepX τ T') (hf : τ.1 1 3 = fa') : CSt τ r r' a c T' R y es fa' img := by
  obtain ⟨⟨b1, b2, b3, b4, b5, b6⟩, -, b9, b10, b11, b12, c1, c2, c3⟩ := h
  have hr : (r = 3 ∧ r' = 8) ∨ (r = 8 ∧ r' = 3) := by rcases b1 with rfl | rfl <;> rcases b2 with rfl | rfl <;> omega
  refine ⟨⟨b1, b2, b3, by rw [h2]; exact b4, by rw [h2]; exact b5, b6.kp (by rw [h2])⟩, ⟨hX, hf⟩, b9.kept (fun p b q1 q2 => h1 _ _ (by omega) (by omega) (by omega)), b10.kept (fun q b q1 q2 _ => h1 _ _ (by omega) (by omega) (by omega)), ⟨by rw [h1 _ _ (by omega) (by omega) (by omega)]; exact b11.1, fun i e hi => by rw [h1 _ _ (by omega) (by omega) (by omega), h1 _ _ (by omega) (by omega) (by omega)]; exact b11.2 i e hi⟩, fun i hi => ?_, c1.kp (fun p b q1 q2 => h1 _ _ (by omega) (by omega) (by omega)) (by rw [h2]), c2.kp (fun b _ => h1 _ _ (by omega) (by omega) (by omega)), c3.kp (h1 _ _ (by omega) (by omega) (by omega)) (fun b => h1 _ _ (by omega) (by omega) (by omega))⟩
  obtain ⟨d1, d2⟩ := b12 i hi
  refine ⟨fun hn => by rw [h1 _ _ (by omega) (by omega) (by omega)]; exact d1 hn, fun z hz => ?_⟩
  obtain ⟨d3, d4⟩ := d2 z hz
  exact ⟨by rw [h1 _ _ (by omega) (by omega) (by omega)]; exact d3, d4.kept (fun q b q1 q2 _ => h1 _ _ (by omega) (by omega) (by omega))⟩
theorem MSt.tx (h : MSt σ T R y es fa img) (h1 : ∀ p b, ¬ ((p = 44 ∧ 6 ≤ b ∧ b ≤ 19) ∨ p = 46 ∨ p = 47) → τ.1 p b = σ.1 p b) (h2 : ∀ p b, ¬ (p = 44 ∧ b = 10) → τ.2.1 p b = σ.2.1 p b) (hX : RepMX τ T') (hf : τ.1 44 13 = fa') : MSt τ T' R y es fa' img := by
  obtain ⟨-, ⟨b3, b4⟩, ⟨⟨c1, c2, c3, c4⟩, c5, c6, c7, c8⟩, ⟨b6, b7⟩, b8⟩ := h
  refine ⟨⟨hX, hf⟩, ⟨b3.kept (fun b _ => h1 _ _ (by omega)) (fun b => h1 _ _ (by omega)), by rw [h1 _ _ (by omega)]; exact b4⟩,
    ⟨⟨by rw [h1 _ _ (by omega)]; exact c1, by rw [h1 _ _ (by omega)]; exact c2, by rw [h1 _ _ (by omega)]; exact c3, by rw [h1 _ _ (by omega)]; exact c4⟩, by rw [h1 _ _ (by omega)]; exact c5, by rw [h2 _ _ (by omega)]; exact c6, by rw [h1 _ _ (by omega)]; exact c7, fun k v hk => by rw [h1 _ _ (by omega)]; exact c8 k v hk⟩,
    ⟨by rw [h1 _ _ (by omega)]; exact b6, fun i e hi => by rw [h1 _ _ (by omega), h1 _ _ (by omega)]; exact b7 i e hi⟩, fun i hi => ?_⟩
  obtain ⟨d1, d2⟩ := b8 i hi
  refine ⟨fun hn => by rw [h1 _ _ (by omega)]; exact d1 hn, fun z hz => ?_⟩
  obtain ⟨d3, e1, e2, e3, e4, e5⟩ := d2 z hz
  exact ⟨by rw [h1 _ _ (by omega)]; exact d3, by rw [h1 _ _ (by omega)]; exact e1, by rw [h1 _ _ (by omega)]; exact e2, by rw [h2 _ _ (by omega)]; exact e3, by rw [h1 _ _ (by omega)]; exact e4, fun k v hk => by rw [h1 _ _ (by omega)]; exact e5 k v hk⟩
theorem b_feed (x : Int32) (z : Int64) : Both mX11_feed mX12_feed [.int x, .long z] := by
  rintro σ ⟨r, r', a, c, T, R, y, es, fa, img, hC, hM, hv⟩
  refine ok_cfeed hC.2.1.1 hv.1 (fun h => ⟨_, rfl, ok_mfeed hM.1.1 hv.1 (fun _ => ⟨rfl, fin_q hC hM hv⟩) (fun h' => absurd h' h) (fun h' => absurd h' h)⟩) (fun h h2 => ⟨_, rfl, ok_mfeed hM.1.1 hv.1 (fun h' => absurd h h') (fun _ _ => ⟨rfl, fin_q hC hM hv⟩) (fun _ h' => absurd h' (by omega))⟩) (fun h h2 τ f1 f2 f3 => ⟨_, rfl, ?_⟩)
  have hC1 := hC.tx (fa' := fa) (fun p b q1 q2 _ => f1 p b (by omega)) f2 f3 (by rw [f1 _ _ (by omega)]; exact hC.2.1.2)
  have hM1 : MSt τ T R y es fa img := hM.cl (fun p b hp => f1 p b (by omega)) (fun p hp => by rw [f2])
  refine ok_mfeed hM1.1.1 hv.1 (fun h' => absurd h h') (fun _ h' => absurd h' (by omega)) (fun _ _ τ2 g1 g2 g3 => ⟨rfl, ?_⟩)
  exact fin_q (hC1.m (fun p b hp => g1 p b (by omega)) (fun p _ => by rw [g2]) (fun p _ => by rw [g2])) (hM1.tx (fun p b hp => g1 p b (by omega)) (fun p b _ => by rw [g2]) g3 (by rw [g1 _ _ (by omega)]; exact hM1.1.2)) ⟨hv.1.app h2, hv.2⟩
theorem b_reckoner : Both mX11_reckoner mX12_reckoner [] := by
  rintro σ ⟨r, r', a, c, T, R, y, es, fa, img, hC, hM, hv⟩
  obtain ⟨⟨b1, b2, b3, b4, b5, b6⟩, ⟨b7, b8⟩, b9, b10, b11, b12, c1, c2, c3⟩ := id hC
  have hr : (r = 3 ∧ r' = 8) ∨ (r = 8 ∧ r' = 3) := by rcases b1 with rfl | rfl <;> rcases b2 with rfl | rfl <;> omega
  have hX0 : ∀ τ : Wd, τ.1 1 1 = 0 → RepX τ [] := fun τ h => ⟨by rw [h]; rfl, fun j x hj => by simp at hj⟩
  have hM0 : ∀ τ : Wd, τ.1 44 6 = 0 → RepMX τ [] := fun τ h => ⟨by rw [h]; rfl, fun j x hj => by simp at hj⟩
  have hT0 : vT [] := ⟨Nat.zero_le _, fun x hx => absurd hx List.not_mem_nil⟩
  refine ok_creck b2 b1 b3 b4 b5 b7 hv.1 (fun τ f hP f1 f2 f3 f4 => ⟨_, rfl, ?_⟩) (fun τ R' hP f1 f2 f3 f4 f5 f6 f7 f8 g1 g2 g3 g4 g5 g6 g7 => ⟨_, rfl, ?_⟩)
  · have hC1 := hC.tx (T' := []) (fun p b q1 q2 q3 => f1 p b (by omega)) f2 (hX0 τ f3) f4
    have hM1 : MSt τ T R y es fa img := hM.cl (fun p b hp => f1 p b (by omega)) (fun p hp => by rw [f2])
    refine ok_mreck hM1.1.1 hv.1 (fun τ2 f' hP' k1 k2 k3 k4 k5 => ?_) (fun τ2 R2 hP' => by rw [hP] at hP'; cases hP')
    have ef : f = f' := by rw [hP] at hP'; exact Sum.inl.inj hP'
    subst ef
    exact ⟨rfl, fin_q (hC1.m (fun p b hp => k1 p b (by omega)) (fun p hp => funext fun b => k2 p b (by omega)) (fun p _ => by rw [k3])) (hM1.tx (T' := []) (fun p b hp => k1 p b (by omega)) k2 (hM0 τ2 k4) k5) ⟨hT0, hv.2⟩⟩
  · have hM1 : MSt τ T R y es fa img := hM.cl (fun p b hp => f1 p b (by omega)) (fun p hp => by rw [f5])
    have hvR := Pread_v hP
    have hy0 : PrC τ 13 ((0, 0, 0, 0), 0, y.2.2.1, []) := ⟨by rw [g1]; rfl, g2, by rw [f1 _ _ (by omega)]; exact b10.2.2.1, by rw [g3]; rfl, fun i v hi => by simp at hi⟩
    have hC1 : CSt τ r' r a c [] R' ((0, 0, 0, 0), 0, y.2.2.1, []) [] (-1) (fun _ => none) := by
      refine ⟨⟨b2, b1, fun h => b3 h.symm, f2, f3, b6.kp (f4 _ (by omega))⟩, ⟨hX0 τ f6, f7⟩, f8, hy0, ⟨by rw [g4]; rfl, fun i e hi => by simp at hi⟩, fun i hi => ⟨fun _ => ?_, fun z hz => by cases hz⟩, st0 g7.1 g7.2.2.1, mo0 g7.2.1, co0 g7.2.2.2⟩
      rcases (show i = 0 ∨ i = 1 by omega) with rfl | rfl
      · exact g5
      · exact g6
    refine ok_mreck hM1.1.1 hv.1 (fun τ2 f' hP' => by rw [hP] at hP'; cases hP') (fun τ2 R2 hP' k1 k2 k3 k4 k5 k6 k7 k8 k9 k10 k11 k12 k13 => ?_)
    have ef : R' = R2 := by rw [hP] at hP'; exact Sum.inr.inj hP'
    subst ef
    refine ⟨rfl, fin_q (hC1.m (fun p b hp => k1 p b (by omega)) (fun p hp => funext fun b => k2 p b (by omega)) (fun p _ => by rw [k3])) ⟨⟨hM0 τ2 k4, k5⟩, ⟨k6, k7⟩, ⟨k8, k9, by rw [k2 _ _ (by omega)]; exact hM1.2.2.1.2.2.1, by rw [k10]; rfl, fun i v hi => by simp at hi⟩, ⟨by rw [k11]; rfl, fun i e hi => by simp at hi⟩, fun i hi => ⟨fun _ => ?_, fun z hz => by cases hz⟩⟩ ⟨hT0, hvR, ⟨⟨by show 0 < max _ 1; omega, Nat.zero_le _, by show 0 < max _ 1; omega, fun _ => rfl, Nat.zero_le _⟩, fun _ => rfl, hv.2.2.1.2.2.1, Nat.zero_le _, fun v hv => absurd hv List.not_mem_nil⟩, ⟨Nat.zero_le _, fun e he => absurd he List.not_mem_nil⟩, fun i z hz => by cases hz⟩⟩
    rcases (show i = 0 ∨ i = 1 by omega) with rfl | rfl
    · exact k12
    · exact k13
end B3
