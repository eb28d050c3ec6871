/-! ===== calls that change what is held ===== -/
section B2
variable {σ τ : Wd} {r r' a c a' c' : Nat} {T T' : List Nat} {R : Rk} {y y' : Pr} {es es' : List (Nat × Nat)} {fa fa' : Int32} {img : Nat → Option Pr}
theorem wC1 {p b : Nat} (h : p < 22 ∨ 44 ≤ p) : (wChg σ).1 p b = σ.1 p b := by
  unfold wChg
  rw [setI_ne (by omega), setI_ne (by omega), setI_ne (by omega), setI_ne (by omega)]
theorem wC5 : (wChg σ).1 26 5 = 0 := by
  unfold wChg
  rw [setI_ne (by omega), setI_ne (by omega), setI_ne (by omega), setI_same]
theorem wC4 : (wChg σ).1 22 4 = 0 := by
  unfold wChg
  rw [setI_ne (by omega), setI_ne (by omega), setI_same]
theorem wC6 : (wChg σ).1 26 6 = 0 := by
  unfold wChg
  rw [setI_ne (by omega), setI_same]
theorem wC7 : (wChg σ).1 30 5 = 0 := by
  unfold wChg
  rw [setI_same]
theorem StC.kp2 {s : St} (hC : StC σ R s) (h1 : ∀ p b, 22 ≤ p → p ≤ 29 → ¬ (p = 26 ∧ b = 6) → τ.1 p b = σ.1 p b) (h2 : τ.2.1 23 = σ.2.1 23) : StC τ R s := by
  obtain ⟨a1, a2, a3⟩ := hC
  have e5 := h1 26 5 (by omega) (by omega) (by omega)
  have e4 := h1 22 4 (by omega) (by omega) (by omega)
  refine ⟨by rw [e5]; exact a1, by rw [e4]; exact a2, fun hm => ⟨fun h5' v hvm => ?_, fun h4' => ?_⟩⟩
  · rw [e5] at h5'
    rw [h1 _ _ (by omega) (by omega) (by omega)]
    exact (a3 hm).1 h5' v hvm
  · rw [e4] at h4'
    obtain ⟨b1, q, b2, b3, ⟨c1, c2, c3⟩, b5, b6⟩ := (a3 hm).2 h4'
    refine ⟨by rw [e5]; exact b1, q, b2, b3, ⟨by rw [h1 _ _ (by omega) (by omega) (by omega)]; exact c1, fun j e hj => by rw [h1 _ _ (by omega) (by omega) (by omega), h1 _ _ (by omega) (by omega) (by omega)]; exact c2 j e hj, fun n hn => ?_⟩, fun v hv => ?_, b6⟩
    · have e : seen τ n = seen σ n := by unfold seen; rw [h2]
      rw [e]
      exact c3 n hn
    · rw [h1 _ _ (by omega) (by omega) (by omega), h1 _ _ (by omega) (by omega) (by omega)]
      exact b5 v hv
/-- the reference's present has moved -/
theorem MSt.pr (h : MSt σ T R y es fa img) (h1 : ∀ p b, ¬ (p = 48 ∨ (p = 44 ∧ 21 ≤ b ∧ b ≤ 27) ∨ (53 ≤ p ∧ p ≤ 59)) → τ.1 p b = σ.1 p b) (h2 : ∀ p b, ¬ (p = 44 ∧ b = 26) → τ.2.1 p b = σ.2.1 p b) (hy : PrM τ y') : MSt τ T R y' es fa img := by
  obtain ⟨⟨b1, b2⟩, ⟨b3, b4⟩, -, ⟨b6, b7⟩, b8⟩ := h
  refine ⟨⟨⟨by rw [h1 _ _ (by omega)]; exact b1.1, fun j x hj => by rw [h1 _ _ (by omega)]; exact b1.2 j x hj⟩, by rw [h1 _ _ (by omega)]; exact b2⟩, ⟨b3.kept (fun b _ => h1 _ _ (by omega)) (fun b => h1 _ _ (by omega)), by rw [h1 _ _ (by omega)]; exact b4⟩, hy,
    ⟨by rw [h1 _ _ (by omega)]; exact b6, fun i e hi => by rw [h1 _ _ (by omega), h1 _ _ (by omega)]; exact b7 i e hi⟩, fun i hi => ?_⟩
  obtain ⟨d1, d2⟩ := b8 i hi
  refine ⟨fun hn => by rw [h1 _ _ (by omega)]; exact d1 hn, fun z hz => ?_⟩
  obtain ⟨d3, e1, e2, e3, e4, e5⟩ := d2 z hz
  exact ⟨by rw [h1 _ _ (by omega)]; exact d3, by rw [h1 _ _ (by omega)]; exact e1, by rw [h1 _ _ (by omega)]; exact e2, by rw [h2 _ _ (by omega)]; exact e3, by rw [h1 _ _ (by omega)]; exact e4, fun k v hk => by rw [h1 _ _ (by omega)]; exact e5 k v hk⟩
theorem vP.str (hv : vR 8 R) (hy : vP R.2.2.2.1 y) {k : Nat} (hk : k < R.2.2.2.2.length) {z : Int32} : vP R.2.2.2.1 (nx R y.1 k, z, y.2.2.1, y.2.2.2) := by
  refine ⟨nx_v hv hk hy.1, fun hm => ?_, hy.2.2⟩
  rw [R0 hv hm] at hk
  exact absurd hk (Nat.not_lt_zero _)
theorem b_strike (x : Int32) : Both mX11_strike mX12_strike [.int x] := by
  rintro σ ⟨r, r', a, c, T, R, y, es, fa, img, hC, hM, hv⟩
  refine ok_cstrike (hC.cp hv) (fun hn => ⟨_, rfl, ok_mstrike (hM.mp hv) (fun _ => ⟨rfl, fin_q hC hM hv⟩) (fun h => absurd h hn)⟩) (fun hk => ⟨_, rfl, ?_⟩)
  obtain ⟨k, hkk⟩ : ∃ k, k = x.toInt.toNat := ⟨_, rfl⟩
  rw [← hkk]
  have hkl : k < R.2.2.2.2.length := by omega
  obtain ⟨cs, hcs⟩ : ∃ cs, cs = nI (R.2.2.2.2.getD k (0, 0, 0, 0)).2.1 := ⟨_, rfl⟩
  rw [← hcs]
  obtain ⟨σ1, hσ1⟩ : ∃ σ1, σ1 = setI (setI σ 13 0 (nI (ps (nx R y.1 k)))) 13 1 (σ.1 13 1 + cs) := ⟨_, rfl⟩
  rw [← hσ1]
  have e1 : ∀ p b, ¬ (p = 13 ∧ b ≤ 1) → σ1.1 p b = σ.1 p b := fun p b h => by rw [hσ1, setI_ne (by omega), setI_ne (by omega)]
  obtain ⟨p0, p1, p2, p3, p4⟩ := hC.2.2.2.1
  have hy1 : PrC (wChg σ1) 13 (nx R y.1 k, y.2.1 + cs, y.2.2.1, y.2.2.2) := ⟨by rw [wC1 (by omega), hσ1, setI_ne (by omega), setI_same], by rw [wC1 (by omega), hσ1, setI_same, p1], by rw [wC1 (by omega), e1 _ _ (by omega)]; exact p2, by rw [wC1 (by omega), e1 _ _ (by omega)]; exact p3, fun i v hi => by rw [wC1 (by omega), e1 _ _ (by omega)]; exact p4 i v hi⟩
  have hC1 : CSt (wChg σ1) r r' a c T R (nx R y.1 k, y.2.1 + cs, y.2.2.1, y.2.2.2) es fa img := hC.pr (fun p b h1 h2 h3 => by rw [wC1 (by omega), e1 _ _ (by omega)]) (fun p => by rw [hσ1]; rfl) hy1 (st0 wC5 wC4) (mo0 wC6) (co0 wC7)
  have hM1 : MSt (wChg σ1) T R y es fa img := hM.cl (fun p b hp => by rw [wC1 (by omega), e1 _ _ (by omega)]) (fun p hp => by rw [hσ1]; rfl)
  refine ok_mstrike (hM1.mp hv) (fun h => absurd hk h) (fun _ => ⟨by rw [hkk], ?_⟩)
  rw [← hkk, ← hcs]
  obtain ⟨-, m1, m2, m3, m4⟩ := hM1.2.2.1
  refine fin_q (hC1.m (fun p b hp => by rw [setI_ne (by omega), putS_o (by omega)]) (fun p _ => rfl) (fun p _ => rfl)) (hM1.pr (y' := (nx R y.1 k, y.2.1 + cs, y.2.2.1, y.2.2.2)) (fun p b hp => by rw [setI_ne (by omega), putS_o (by omega)]) (fun p b _ => rfl) ⟨?_, by rw [setI_same, m1], m2, by rw [setI_ne (by omega), putS_o (by omega)]; exact m3, fun i v hi => by rw [setI_ne (by omega), putS_o (by omega)]; exact m4 i v hi⟩) ⟨hv.1, hv.2.1, vP.str hv.2.1 hv.2.2.1 hkl, hv.2.2.2⟩
  have hs : RepS (putS (wChg σ1) (nx R y.1 k)) (nx R y.1 k) := putS_rep
  exact ⟨by rw [setI_ne (by omega)]; exact hs.1, by rw [setI_ne (by omega)]; exact hs.2.1, by rw [setI_ne (by omega)]; exact hs.2.2.1, by rw [setI_ne (by omega)]; exact hs.2.2.2⟩
theorem vP.zero (hy : vP R.2.2.2.1 y) : vP R.2.2.2.1 ((0, 0, 0, 0), y.2) := ⟨⟨by show 0 < max _ 1; omega, Nat.zero_le _, by show 0 < max _ 1; omega, fun _ => rfl, Nat.zero_le _⟩, fun _ => rfl, hy.2.2⟩
theorem b_begin : Both mX11_begin mX12_begin [] := by
  rintro σ ⟨r, r', a, c, T, R, y, es, fa, img, hC, hM, hv⟩
  refine ok_cbegin (hC.cp hv) ⟨_, rfl, ?_⟩
  obtain ⟨p0, p1, p2, p3, p4⟩ := hC.2.2.2.1
  have hy1 : PrC (wChg (setI σ 13 0 0)) 13 ((0, 0, 0, 0), y.2) := ⟨by rw [wC1 (by omega), setI_same]; rfl, by rw [wC1 (by omega), setI_ne (by omega)]; exact p1, by rw [wC1 (by omega), setI_ne (by omega)]; exact p2, by rw [wC1 (by omega), setI_ne (by omega)]; exact p3, fun i v hi => by rw [wC1 (by omega), setI_ne (by omega)]; exact p4 i v hi⟩
  have hC1 : CSt (wChg (setI σ 13 0 0)) r r' a c T R ((0, 0, 0, 0), y.2) es fa img := hC.pr (fun p b h1 h2 h3 => by rw [wC1 (by omega), setI_ne (by omega)]) (fun p => rfl) hy1 (st0 wC5 wC4) (mo0 wC6) (co0 wC7)
  have hM1 : MSt (wChg (setI σ 13 0 0)) T R y es fa img := hM.cl (fun p b hp => by rw [wC1 (by omega), setI_ne (by omega)]) (fun p hp => rfl)
  obtain ⟨-, m1, m2, m3, m4⟩ := hM1.2.2.1
  refine ok_mbegin (hM1.mp hv) ⟨rfl, ?_⟩
  exact fin_q (hC1.m (fun p b hp => putS_o (by omega)) (fun p _ => rfl) (fun p _ => rfl)) (hM1.pr (y' := ((0, 0, 0, 0), y.2)) (fun p b hp => putS_o (by omega)) (fun p b _ => rfl) ⟨putS_rep, by rw [putS_o (by omega)]; exact m1, m2, by rw [putS_o (by omega)]; exact m3, fun i v hi => by rw [putS_o (by omega)]; exact m4 i v hi⟩) ⟨hv.1, hv.2.1, vP.zero hv.2.2.1, hv.2.2.2⟩
theorem b_target (x : Int32) : Both mX11_target mX12_target [.int x] := by
  rintro σ ⟨r, r', a, c, T, R, y, es, fa, img, hC, hM, hv⟩
  obtain ⟨p0, p1, p2, p3, p4⟩ := hC.2.2.2.1
  obtain ⟨m0, m1, m2, m3, m4⟩ := hM.2.2.1
  obtain ⟨v1, v2, v3, v4, v5⟩ := hv.2.2.1
  refine ok_ctarget (hC.cp hv) p3 v4 (fun h => ⟨_, rfl, ok_mtarget (hM.mp hv) m3 v4 (fun _ => ⟨rfl, fin_q hC hM hv⟩) (fun h' => absurd h' h) (fun h' => absurd h' h)⟩) (fun h h6 => ⟨_, rfl, ok_mtarget (hM.mp hv) m3 v4 (fun h' => absurd h h') (fun _ _ => ⟨rfl, fin_q hC hM hv⟩) (fun _ h' => absurd h' (by omega))⟩) (fun h h6 => ⟨_, rfl, ?_⟩)
  obtain ⟨v, hvx⟩ : ∃ v, v = x.toInt.toNat := ⟨_, rfl⟩
  have hxn : x = nI v := by rw [hvx]; exact x_nI h.1
  have hvm : v < R.2.2.2.1 := by omega
  subst hxn
  obtain ⟨τ, hτ⟩ : ∃ τ, τ = setI (setI (setI σ 14 y.2.2.2.length (nI v)) 13 3 (nI (y.2.2.2.length + 1))) 26 6 0 := ⟨_, rfl⟩
  rw [← hτ]
  have e1 : ∀ p b, ¬ (p = 14 ∧ b = y.2.2.2.length) → ¬ (p = 13 ∧ b = 3) → ¬ (p = 26 ∧ b = 6) → τ.1 p b = σ.1 p b := fun p b h1 h2 h3 => by rw [hτ, setI_ne h3, setI_ne h2, setI_ne h1]
  have ht2 : τ.2 = σ.2 := by rw [hτ]; rfl
  have hy1 : PrC τ 13 (y.1, y.2.1, y.2.2.1, y.2.2.2 ++ [v]) := by
    refine ⟨by rw [e1 _ _ (by omega) (by omega) (by omega)]; exact p0, by rw [e1 _ _ (by omega) (by omega) (by omega)]; exact p1, by rw [e1 _ _ (by omega) (by omega) (by omega)]; exact p2, ?_, fun i u hi => ?_⟩
    · rw [hτ, setI_ne (by omega), setI_same]
      show _ = nI (y.2.2.2 ++ [v]).length
      rw [List.length_append, List.length_singleton]
    · have hi' : (y.2.2.2 ++ [v])[i]? = some u := hi
      rcases Nat.lt_or_ge i y.2.2.2.length with h1 | h1
      · rw [List.getElem?_append_left h1] at hi'
        rw [e1 _ _ (by omega) (by omega) (by omega)]
        exact p4 i u hi'
      · have hlt := (List.getElem?_eq_some_iff.mp hi').1
        rw [List.length_append, List.length_singleton] at hlt
        have ei : i = y.2.2.2.length := by omega
        rw [List.getElem?_append_right h1, show i - y.2.2.2.length = 0 by omega] at hi'
        have eu : v = u := Option.some.inj hi'
        rw [ei, ← eu, hτ, setI_ne (by omega), setI_ne (by omega), setI_same]
  have hC1 : CSt τ r r' a c T R (y.1, y.2.1, y.2.2.1, y.2.2.2 ++ [v]) es fa img := hC.pr (fun p b h1 h2 h3 => e1 _ _ (by omega) (by omega) (by omega)) (fun p => by rw [ht2]) hy1 (hC.2.2.2.2.2.2.1.kp2 (fun p b q1 q2 q3 => e1 _ _ (by omega) (by omega) q3) (by rw [ht2])) (mo0 (by rw [hτ, setI_same])) (hC.2.2.2.2.2.2.2.2.kp (e1 _ _ (by omega) (by omega) (by omega)) (fun b => e1 _ _ (by omega) (by omega) (by omega)))
  have hM1 : MSt τ T R y es fa img := hM.cl (fun p b hp => e1 _ _ (by omega) (by omega) (by omega)) (fun p hp => by rw [ht2])
  obtain ⟨m0, m1, m2, m3, m4⟩ := hM1.2.2.1
  refine ok_mtarget (hM1.mp hv) m3 v4 (fun h' => absurd h h') (fun _ h' => absurd h' (by omega)) (fun _ _ => ⟨rfl, ?_⟩)
  refine fin_q (hC1.m (fun p b hp => by rw [setI_ne (by omega), setI_ne (by omega)]) (fun p _ => rfl) (fun p _ => rfl)) (hM1.pr (y' := (y.1, y.2.1, y.2.2.1, y.2.2.2 ++ [v])) (fun p b hp => by rw [setI_ne (by omega), setI_ne (by omega)]) (fun p b _ => rfl) ⟨⟨by rw [setI_ne (by omega), setI_ne (by omega)]; exact m0.1, by rw [setI_ne (by omega), setI_ne (by omega)]; exact m0.2.1, by rw [setI_ne (by omega), setI_ne (by omega)]; exact m0.2.2.1, by rw [setI_ne (by omega), setI_ne (by omega)]; exact m0.2.2.2⟩, by rw [setI_ne (by omega), setI_ne (by omega)]; exact m1, m2, ?_, fun i u hi => ?_⟩) ⟨hv.1, hv.2.1, ⟨v1, v2, v3, ?_, fun u hu => ?_⟩, hv.2.2.2⟩
  · rw [setI_same]
    show _ = nI (y.2.2.2 ++ [v]).length
    rw [List.length_append, List.length_singleton]
  · have hi' : (y.2.2.2 ++ [v])[i]? = some u := hi
    rcases Nat.lt_or_ge i y.2.2.2.length with h1 | h1
    · rw [List.getElem?_append_left h1] at hi'
      rw [setI_ne (by omega), setI_ne (by omega)]
      exact m4 i u hi'
    · have hlt := (List.getElem?_eq_some_iff.mp hi').1
      rw [List.length_append, List.length_singleton] at hlt
      have ei : i = y.2.2.2.length := by omega
      rw [List.getElem?_append_right h1, show i - y.2.2.2.length = 0 by omega] at hi'
      have eu : v = u := Option.some.inj hi'
      rw [ei, ← eu, setI_ne (by omega), setI_same]
  · show (y.2.2.2 ++ [v]).length ≤ 6
    rw [List.length_append, List.length_singleton]
    omega
  · have hu' : u ∈ y.2.2.2 ++ [v] := hu
    rcases List.mem_append.mp hu' with h1 | h1
    · exact v5 u h1
    · rw [List.mem_singleton.mp h1]; exact hvm
theorem b_forget : Both mX11_forget mX12_forget [] := by
  rintro σ ⟨r, r', a, c, T, R, y, es, fa, img, hC, hM, hv⟩
  obtain ⟨p0, p1, p2, p3, p4⟩ := hC.2.2.2.1
  obtain ⟨m0, m1, m2, m3, m4⟩ := hM.2.2.1
  obtain ⟨v1, v2, v3, v4, v5⟩ := hv.2.2.1
  refine ok_cforget ⟨_, rfl, ?_⟩
  obtain ⟨τ, hτ⟩ : ∃ τ, τ = setI (setI σ 13 3 0) 26 6 0 := ⟨_, rfl⟩
  rw [← hτ]
  have e1 : ∀ p b, ¬ (p = 13 ∧ b = 3) → ¬ (p = 26 ∧ b = 6) → τ.1 p b = σ.1 p b := fun p b h2 h3 => by rw [hτ, setI_ne h3, setI_ne h2]
  have ht2 : τ.2 = σ.2 := by rw [hτ]; rfl
  have hC1 : CSt τ r r' a c T R (y.1, y.2.1, y.2.2.1, []) es fa img := hC.pr (fun p b h1 h2 h3 => e1 _ _ (by omega) (by omega)) (fun p => by rw [ht2]) ⟨by rw [e1 _ _ (by omega) (by omega)]; exact p0, by rw [e1 _ _ (by omega) (by omega)]; exact p1, by rw [e1 _ _ (by omega) (by omega)]; exact p2, by rw [hτ, setI_ne (by omega), setI_same]; rfl, fun i u hi => by simp at hi⟩ (hC.2.2.2.2.2.2.1.kp2 (fun p b q1 q2 q3 => e1 _ _ (by omega) q3) (by rw [ht2])) (mo0 (by rw [hτ, setI_same])) (hC.2.2.2.2.2.2.2.2.kp (e1 _ _ (by omega) (by omega)) (fun b => e1 _ _ (by omega) (by omega)))
  have hM1 : MSt τ T R y es fa img := hM.cl (fun p b hp => e1 _ _ (by omega) (by omega)) (fun p hp => by rw [ht2])
  obtain ⟨m0, m1, m2, m3', m4⟩ := hM1.2.2.1
  refine ok_mforget ⟨by rw [m3', p3], ?_⟩
  exact fin_q (hC1.m (fun p b hp => by rw [setI_ne (by omega)]) (fun p _ => rfl) (fun p _ => rfl)) (hM1.pr (y' := (y.1, y.2.1, y.2.2.1, [])) (fun p b hp => by rw [setI_ne (by omega)]) (fun p b _ => rfl) ⟨⟨by rw [setI_ne (by omega)]; exact m0.1, by rw [setI_ne (by omega)]; exact m0.2.1, by rw [setI_ne (by omega)]; exact m0.2.2.1, by rw [setI_ne (by omega)]; exact m0.2.2.2⟩, by rw [setI_ne (by omega)]; exact m1, m2, by rw [setI_same]; rfl, fun i u hi => by simp at hi⟩) ⟨hv.1, hv.2.1, ⟨v1, v2, v3, Nat.zero_le _, fun u hu => absurd hu List.not_mem_nil⟩, hv.2.2.2⟩
/-- the book has moved -/
theorem CSt.bk (h : CSt σ r r' a c T R y es fa img) (h1 : ∀ p b, ¬ (19 ≤ p ∧ p ≤ 21) → τ.1 p b = σ.1 p b) (h2 : τ.2 = σ.2) (hB : RepB τ es') : CSt τ r r' a c T R y es' fa img := by
  obtain ⟨⟨b1, b2, b3, b4, b5, b6⟩, ⟨b7, b8⟩, b9, b10, b11, b12, c1, c2, c3⟩ := h
  have hr : r + 4 < 13 := by rcases b1 with rfl | rfl <;> omega
  refine ⟨⟨b1, b2, b3, by rw [h2]; exact b4, by rw [h2]; exact b5, b6.kp (by rw [h2])⟩, ⟨b7.kp (h1 _ _ (by omega)) (fun b => h1 _ _ (by omega)), by rw [h1 _ _ (by omega)]; exact b8⟩, b9.kept (fun p b q1 q2 => h1 _ _ (by omega)), b10.kept (fun q b q1 q2 _ => h1 _ _ (by omega)), hB, fun i hi => ?_, c1.kp (fun p b q1 q2 => h1 _ _ (by omega)) (by rw [h2]), c2.kp (fun b _ => h1 _ _ (by omega)), c3.kp (h1 _ _ (by omega)) (fun b => h1 _ _ (by omega))⟩
  obtain ⟨d1, d2⟩ := b12 i hi
  refine ⟨fun hn => by rw [h1 _ _ (by omega)]; exact d1 hn, fun z hz => ?_⟩
  obtain ⟨d3, d4⟩ := d2 z hz
  exact ⟨by rw [h1 _ _ (by omega)]; exact d3, d4.kept (fun q b q1 q2 _ => h1 _ _ (by omega))⟩
theorem MSt.bk (h : MSt σ T R y es fa img) (h1 : ∀ p b, ¬ (p = 49 ∨ (p = 44 ∧ b = 29)) → τ.1 p b = σ.1 p b) (h2 : τ.2 = σ.2) (hB : RepMB τ es') : MSt τ T R y es' fa img := by
  obtain ⟨⟨b1, b2⟩, ⟨b3, b4⟩, ⟨⟨c1, c2, c3, c4⟩, c5, c6, c7, c8⟩, -, b8⟩ := h
  refine ⟨⟨⟨by rw [h1 _ _ (by omega)]; exact b1.1, fun j x hj => by rw [h1 _ _ (by omega)]; exact b1.2 j x hj⟩, by rw [h1 _ _ (by omega)]; exact b2⟩, ⟨b3.kept (fun b _ => h1 _ _ (by omega)) (fun b => h1 _ _ (by omega)), by rw [h1 _ _ (by omega)]; exact b4⟩,
    ⟨⟨by rw [h1 _ _ (by omega)]; exact c1, by rw [h1 _ _ (by omega)]; exact c2, by rw [h1 _ _ (by omega)]; exact c3, by rw [h1 _ _ (by omega)]; exact c4⟩, by rw [h1 _ _ (by omega)]; exact c5, by rw [h2]; exact c6, by rw [h1 _ _ (by omega)]; exact c7, fun k v hk => by rw [h1 _ _ (by omega)]; exact c8 k v hk⟩, hB, fun i hi => ?_⟩
  obtain ⟨d1, d2⟩ := b8 i hi
  refine ⟨fun hn => by rw [h1 _ _ (by omega)]; exact d1 hn, fun z hz => ?_⟩
  obtain ⟨d3, e1, e2, e3, e4, e5⟩ := d2 z hz
  exact ⟨by rw [h1 _ _ (by omega)]; exact d3, by rw [h1 _ _ (by omega)]; exact e1, by rw [h1 _ _ (by omega)]; exact e2, by rw [h2]; exact e3, by rw [h1 _ _ (by omega)]; exact e4, fun k v hk => by rw [h1 _ _ (by omega)]; exact e5 k v hk⟩
theorem b_write (x z : Int32) : Both mX11_write mX12_write [.int x, .int z] := by
  rintro σ ⟨r, r', a, c, T, R, y, es, fa, img, hC, hM, hv⟩
  have hB := hC.2.2.2.2.1
  have hMB := hM.2.2.2.1
  obtain ⟨w1, w2⟩ := hv.2.2.2.1
  refine ok_cwrite (hC.cp hv) hB.1 w1 (fun h => ⟨_, rfl, ok_mwrite (hM.mp hv) hMB.1 w1 (fun _ => ⟨rfl, fin_q hC hM hv⟩) (fun h' => absurd h' h) (fun h' => absurd h' h) (fun h' => absurd h' h)⟩) (fun h h2 => ⟨_, rfl, ok_mwrite (hM.mp hv) hMB.1 w1 (fun h' => absurd h h') (fun _ _ => ⟨rfl, fin_q hC hM hv⟩) (fun _ h' => absurd h' h2) (fun _ h' => absurd h' h2)⟩) (fun h h2 h3 => ⟨_, rfl, ok_mwrite (hM.mp hv) hMB.1 w1 (fun h' => absurd h h') (fun _ h' => absurd h2 h') (fun _ _ _ => ⟨rfl, fin_q hC hM hv⟩) (fun _ _ h' => absurd h' (by omega))⟩) (fun h h2 h3 => ⟨_, rfl, ?_⟩)
  obtain ⟨k, hk⟩ : ∃ k, k = x.toInt.toNat := ⟨_, rfl⟩
  obtain ⟨v, hvz⟩ : ∃ v, v = z.toInt.toNat := ⟨_, rfl⟩
  have hxn : x = nI k := by rw [hk]; exact x_nI h.1
  have hzn : z = nI v := by rw [hvz]; exact x_nI h2.1
  have hkl : k < R.2.2.2.2.length := by omega
  have hvm : v < R.2.2.2.1 := by omega
  subst hxn hzn
  obtain ⟨τ, hτ⟩ : ∃ τ, τ = setI (setI (setI σ 20 es.length (nI k)) 21 es.length (nI v)) 19 2 (nI (es.length + 1)) := ⟨_, rfl⟩
  have hRB := repB_add (k := k) (v := v) rfl hB
  rw [← hτ] at hRB ⊢
  have e1 : ∀ p b, ¬ (19 ≤ p ∧ p ≤ 21) → τ.1 p b = σ.1 p b := fun p b h2 => by rw [hτ, setI_ne (by omega), setI_ne (by omega), setI_ne (by omega)]
  have ht2 : τ.2 = σ.2 := by rw [hτ]; rfl
  have hC1 := hC.bk e1 ht2 hRB
  have hM1 : MSt τ T R y es fa img := hM.cl (fun p b hp => e1 _ _ (by omega)) (fun p hp => by rw [ht2])
  have hMB1 := hM1.2.2.2.1
  refine ok_mwrite (hM1.mp hv) hMB1.1 w1 (fun h' => absurd h h') (fun _ h' => absurd h2 h') (fun _ _ h' => absurd h' (by omega)) (fun _ _ _ => ⟨rfl, ?_⟩)
  refine fin_q (hC1.m (fun p b hp => by rw [setI_ne (by omega), setI_ne (by omega), setI_ne (by omega)]) (fun p _ => rfl) (fun p _ => rfl)) (hM1.bk (es' := es ++ [(k, v)]) (fun p b hp => by rw [setI_ne (by omega), setI_ne (by omega), setI_ne (by omega)]) rfl ⟨by rw [setI_same, List.length_append, List.length_singleton], fun i e hi => ?_⟩) ⟨hv.1, hv.2.1, hv.2.2.1, ⟨by rw [List.length_append, List.length_singleton]; omega, fun e he => ?_⟩, hv.2.2.2.2⟩
  · rcases Nat.lt_or_ge i es.length with h1 | h1
    · rw [List.getElem?_append_left h1] at hi
      rw [setI_ne (by omega), setI_ne (by omega), setI_ne (by omega), setI_ne (by omega), setI_ne (by omega), setI_ne (by omega)]
      exact hMB1.2 i e hi
    · have hlt := (List.getElem?_eq_some_iff.mp hi).1
      rw [List.length_append, List.length_singleton] at hlt
      have ei : i = es.length := by omega
      rw [List.getElem?_append_right h1, show i - es.length = 0 by omega] at hi
      have eu : (k, v) = e := Option.some.inj hi
      rw [ei, ← eu]
      exact ⟨by rw [setI_ne (by omega), setI_ne (by omega), setI_same], by rw [setI_ne (by omega), setI_same]⟩
  · rcases List.mem_append.mp he with h1 | h1
    · exact w2 e h1
    · rw [List.mem_singleton.mp h1]; exact ⟨hkl, hvm⟩
theorem b_tear : Both mX11_tear mX12_tear [] := by
  rintro σ ⟨r, r', a, c, T, R, y, es, fa, img, hC, hM, hv⟩
  refine ok_ctear ⟨_, rfl, ?_⟩
  have hC1 : CSt (setI σ 19 2 0) r r' a c T R y [] fa img := hC.bk (fun p b h2 => setI_ne (by omega)) rfl ⟨by rw [setI_same]; rfl, fun i e hi => by simp at hi⟩
  have hM1 : MSt (setI σ 19 2 0) T R y es fa img := hM.cl (fun p b hp => setI_ne (by omega)) (fun p hp => rfl)
  refine ok_mtear ⟨by rw [hM1.2.2.2.1.1, hC.2.2.2.2.1.1], ?_⟩
  exact fin_q (hC1.m (fun p b hp => setI_ne (by omega)) (fun p _ => rfl) (fun p _ => rfl)) (hM1.bk (es' := []) (fun p b hp => setI_ne (by omega)) rfl ⟨by rw [setI_same]; rfl, fun i e hi => by simp at hi⟩) ⟨hv.1, hv.2.1, hv.2.2.1, ⟨Nat.zero_le _, fun e he => absurd he List.not_mem_nil⟩, hv.2.2.2.2⟩
theorem b_seed (x : Int32) : Both mX11_seed mX12_seed [.int x] := by
  rintro σ ⟨r, r', a, c, T, R, y, es, fa, img, hC, hM, hv⟩
  obtain ⟨p0, p1, p2, p3, p4⟩ := hC.2.2.2.1
  obtain ⟨v1, v2, v3, v4, v5⟩ := hv.2.2.1
  refine ok_cseed (fun h => ⟨_, rfl, ok_mseed hM.2.2.1.2.2.1 (fun _ => ⟨rfl, fin_q hC hM hv⟩) (fun h' => absurd h' (by omega))⟩) (fun h => ⟨_, rfl, ?_⟩)
  obtain ⟨hx1, hx2⟩ := iz_rng x
  have hxn := x_nI h
  have hC1 : CSt (setI σ 13 2 x) r r' a c T R (y.1, y.2.1, x.toInt.toNat, y.2.2.2) es fa img := hC.pr (fun p b h1 h2 h3 => setI_ne (by omega)) (fun p => rfl) ⟨by rw [setI_ne (by omega)]; exact p0, by rw [setI_ne (by omega)]; exact p1, by rw [setI_same]; exact hxn, by rw [setI_ne (by omega)]; exact p3, fun i v hi => by rw [setI_ne (by omega)]; exact p4 i v hi⟩ (hC.2.2.2.2.2.2.1.kp (fun p b q1 q2 => setI_ne (by omega)) rfl) (hC.2.2.2.2.2.2.2.1.kp (fun b _ => setI_ne (by omega))) (hC.2.2.2.2.2.2.2.2.kp (setI_ne (by omega)) (fun b => setI_ne (by omega)))
  have hM1 : MSt (setI σ 13 2 x) T R y es fa img := hM.cl (fun p b hp => setI_ne (by omega)) (fun p hp => rfl)
  obtain ⟨m0, m1, m2, m3, m4⟩ := hM1.2.2.1
  refine ok_mseed m2 (fun h' => absurd h' (by omega)) (fun _ => ⟨by rw [p2], ?_⟩)
  refine fin_q (hC1.m (fun p b hp => rfl) (fun p hp => setL_o (by omega)) (fun p _ => rfl)) (hM1.pr (y' := (y.1, y.2.1, x.toInt.toNat, y.2.2.2)) (fun p b hp => rfl) (fun p b hp => if_neg hp) ⟨m0, m1, setL_same, m3, m4⟩) ⟨hv.1, hv.2.1, ⟨v1, v2, by show x.toInt.toNat < 2147483648; omega, v4, v5⟩, hv.2.2.2⟩
end B2
