/-! ===== what both sides hold between two calls ===== -/
def PrC (σ : Wd) (p : Nat) (y : Pr) : Prop := σ.1 p 0 = nI (ps y.1) ∧ σ.1 p 1 = y.2.1 ∧ σ.1 p 2 = nI y.2.2.1 ∧ RepT σ p y.2.2.2
def CSt (σ : Wd) (r r' a c : Nat) (T : List Nat) (R : Rk) (y : Pr) (es : List (Nat × Nat)) (fa : Int32) (img : Nat → Option Pr) : Prop :=
  (vIsR r ∧ vIsR r' ∧ r ≠ r' ∧ σ.2.2 0 1 = r ∧ σ.2.2 0 2 = r' ∧ AP σ a c) ∧ (RepX σ T ∧ σ.1 1 3 = fa) ∧ RepR σ r R ∧ PrC σ 13 y ∧ RepB σ es ∧
  (∀ i, i < 2 → (img i = none → σ.1 (15 + 2 * i) 4 = 0) ∧ ∀ z, img i = some z → σ.1 (15 + 2 * i) 4 = 1 ∧ PrC σ (15 + 2 * i) z) ∧ StC σ R y.1 ∧ MoC σ R y.1 y.2.2.2 ∧ CoC σ R y.1
def MSt (σ : Wd) (T : List Nat) (R : Rk) (y : Pr) (es : List (Nat × Nat)) (fa : Int32) (img : Nat → Option Pr) : Prop :=
  (RepMX σ T ∧ σ.1 44 13 = fa) ∧ (RepM σ R ∧ σ.1 44 4 = nI R.2.2.2.2.length) ∧ PrM σ y ∧ RepMB σ es ∧
  ∀ i, i < 2 → (img i = none → σ.1 52 i = 0) ∧ ∀ z, img i = some z → σ.1 52 i = 1 ∧ ImM σ R.2.2.2.1 i z
def vA (T : List Nat) (R : Rk) (y : Pr) (es : List (Nat × Nat)) (img : Nat → Option Pr) : Prop := vT T ∧ vR 8 R ∧ vP R.2.2.2.1 y ∧ vB R.2.2.2.1 R.2.2.2.2.length es ∧ ∀ i z, img i = some z → vP R.2.2.2.1 z
def Inv (σ : Wd) : Prop := ∃ (r r' a c : Nat) (T : List Nat) (R : Rk) (y : Pr) (es : List (Nat × Nat)) (fa : Int32) (img : Nat → Option Pr), CSt σ r r' a c T R y es fa img ∧ MSt σ T R y es fa img ∧ vA T R y es img
/-- both answer alike, and go on alike -/
def Both (M1 M2 : MI) (as : List Value) : Prop := ∀ σ, Inv σ → Ok 30 M1 (.ref 0 :: as) σ (fun v τ => ∃ w : Int32, v = some (.int w) ∧ Ok 30 M2 (.ref 44 :: as) τ (fun v' τ' => v' = some (.int w) ∧ Inv τ'))
section IV
variable {σ τ : Wd} {r r' a c a' c' : Nat} {T : List Nat} {R : Rk} {y y' : Pr} {es : List (Nat × Nat)} {fa : Int32} {img : Nat → Option Pr}
theorem CSt.cp (h : CSt σ r r' a c T R y es fa img) (v : vA T R y es img) : CP σ r R y.1 := ⟨h.1.1, h.1.2.2.2.1, h.2.2.1, v.2.1, h.2.2.2.1.1, v.2.2.1.1⟩
theorem MSt.mp (h : MSt σ T R y es fa img) (v : vA T R y es img) : MP σ R y.1 := ⟨h.2.1.1, h.2.1.2, v.2.1, h.2.2.1.1, v.2.2.1.1⟩
theorem MSt.mrt (h : MSt σ T R y es fa img) : MRT σ y.2.2.2 := ⟨h.2.2.1.2.2.2.1, h.2.2.1.2.2.2.2⟩
theorem PrC.kept {p : Nat} (h : PrC σ p y) (h1 : ∀ q b, p ≤ q → q ≤ p + 1 → b ≠ 4 ∨ q ≠ p → τ.1 q b = σ.1 q b) : PrC τ p y := by
  obtain ⟨a1, a2, a3, a4, a5⟩ := h
  exact ⟨by rw [h1 _ _ (by omega) (by omega) (by omega)]; exact a1, by rw [h1 _ _ (by omega) (by omega) (by omega)]; exact a2, by rw [h1 _ _ (by omega) (by omega) (by omega)]; exact a3, by rw [h1 _ _ (by omega) (by omega) (by omega)]; exact a4, fun i v hi => by rw [h1 _ _ (by omega) (by omega) (by omega)]; exact a5 i v hi⟩
theorem AP.kp (h : AP σ a c) (h1 : τ.2.2 33 = σ.2.2 33) : AP τ a c := by unfold AP at h ⊢; rw [h1]; exact h
theorem MoC.kp {s : St} {tg : List Nat} (h : MoC σ R s tg) (h1 : ∀ b, 6 ≤ b → τ.1 26 b = σ.1 26 b) : MoC τ R s tg := by
  unfold MoC at h ⊢
  rw [h1 6 (by omega), h1 7 (by omega), h1 8 (by omega), h1 9 (by omega)]
  exact h
theorem CoC.kp {s : St} (h : CoC σ R s) (h1 : τ.1 30 5 = σ.1 30 5) (h2 : ∀ b, τ.1 31 b = σ.1 31 b) : CoC τ R s := by
  refine ⟨by rw [h1]; exact h.1, fun h5 hm v hv => ?_⟩
  rw [h1] at h5
  rw [h2]
  exact h.2 h5 hm v hv
theorem st0 {s : St} (h5 : τ.1 26 5 = 0) (h4 : τ.1 22 4 = 0) : StC τ R s := ⟨Or.inl h5, Or.inl h4, fun _ => ⟨fun h => absurd h (by rw [h5]; decide), fun h => absurd h (by rw [h4]; decide)⟩⟩
theorem mo0 {s : St} {tg : List Nat} (h6 : τ.1 26 6 = 0) : MoC τ R s tg := ⟨Or.inl h6, fun h => absurd h (by rw [h6]; decide)⟩
theorem co0 {s : St} (h5 : τ.1 30 5 = 0) : CoC τ R s := ⟨Or.inl h5, fun h => absurd h (by rw [h5]; decide)⟩
/-- what is read off the state alone has moved -/
theorem CSt.ca (h : CSt σ r r' a c T R y es fa img) (h1 : ∀ p b, p < 22 → τ.1 p b = σ.1 p b) (h2 : ∀ p, p < 22 → τ.2.2 p = σ.2.2 p) (hA : AP τ a' c') (hS : StC τ R y.1) (hM : MoC τ R y.1 y.2.2.2) (hC : CoC τ R y.1) : CSt τ r r' a' c' T R y es fa img := by
  obtain ⟨⟨b1, b2, b3, b4, b5, b6⟩, ⟨b7, b8⟩, b9, b10, b11, b12, -⟩ := h
  have hr : r + 4 < 13 := by rcases b1 with rfl | rfl <;> omega
  refine ⟨⟨b1, b2, b3, by rw [h2 _ (by omega)]; exact b4, by rw [h2 _ (by omega)]; exact b5, hA⟩, ⟨b7.kp (h1 _ _ (by omega)) (fun b => h1 _ _ (by omega)), by rw [h1 _ _ (by omega)]; exact b8⟩, b9.kept (fun p b q1 q2 => h1 _ _ (by omega)), b10.kept (fun q b q1 q2 _ => h1 _ _ (by omega)), ⟨by rw [h1 _ _ (by omega)]; exact b11.1, fun i e hi => by rw [h1 _ _ (by omega), h1 _ _ (by omega)]; exact b11.2 i e hi⟩, fun i hi => ?_, hS, hM, hC⟩
  obtain ⟨d1, d2⟩ := b12 i hi
  refine ⟨fun hn => by rw [h1 _ _ (by omega)]; exact d1 hn, fun z hz => ?_⟩
  obtain ⟨d3, d4⟩ := d2 z hz
  exact ⟨by rw [h1 _ _ (by omega)]; exact d3, d4.kept (fun q b q1 q2 _ => h1 _ _ (by omega))⟩
/-- the present has moved -/
theorem CSt.pr (h : CSt σ r r' a c T R y es fa img) (h1 : ∀ p b, p < 22 → p ≠ 13 → p ≠ 14 → τ.1 p b = σ.1 p b) (h2 : ∀ p, τ.2.2 p = σ.2.2 p) (hy : PrC τ 13 y') (hS : StC τ R y'.1) (hM : MoC τ R y'.1 y'.2.2.2) (hC : CoC τ R y'.1) : CSt τ r r' a c T R y' es fa img := by
  obtain ⟨⟨b1, b2, b3, b4, b5, b6⟩, ⟨b7, b8⟩, b9, b10, b11, b12, -⟩ := h
  have hr : r + 4 < 13 := by rcases b1 with rfl | rfl <;> omega
  refine ⟨⟨b1, b2, b3, by rw [h2]; exact b4, by rw [h2]; exact b5, b6.kp (h2 _)⟩, ⟨b7.kp (h1 _ _ (by omega) (by omega) (by omega)) (fun b => h1 _ _ (by omega) (by omega) (by omega)), by rw [h1 _ _ (by omega) (by omega) (by omega)]; exact b8⟩, b9.kept (fun p b q1 q2 => h1 _ _ (by omega) (by omega) (by omega)), hy, ⟨by rw [h1 _ _ (by omega) (by omega) (by omega)]; exact b11.1, fun i e hi => by rw [h1 _ _ (by omega) (by omega) (by omega), h1 _ _ (by omega) (by omega) (by omega)]; exact b11.2 i e hi⟩, fun i hi => ?_, hS, hM, hC⟩
  obtain ⟨d1, d2⟩ := b12 i hi
  refine ⟨fun hn => by rw [h1 _ _ (by omega) (by omega) (by omega)]; exact d1 hn, fun z hz => ?_⟩
  obtain ⟨d3, d4⟩ := d2 z hz
  exact ⟨by rw [h1 _ _ (by omega) (by omega) (by omega)]; exact d3, d4.kept (fun q b q1 q2 _ => h1 _ _ (by omega) (by omega) (by omega))⟩
/-- the reference has moved -/
theorem CSt.m (h : CSt σ r r' a c T R y es fa img) (h1 : ∀ p b, p < 44 → τ.1 p b = σ.1 p b) (h2 : ∀ p, p < 44 → τ.2.1 p = σ.2.1 p) (h3 : ∀ p, p < 44 → τ.2.2 p = σ.2.2 p) : CSt τ r r' a c T R y es fa img := by
  obtain ⟨hS, hM, hC⟩ := h.2.2.2.2.2.2
  exact h.ca (fun p b hp => h1 p b (by omega)) (fun p hp => h3 p (by omega)) (h.1.2.2.2.2.2.kp (h3 _ (by omega))) (hS.kp (fun p b q1 q2 => h1 p b (by omega)) (h2 _ (by omega))) (hM.kp (fun b _ => h1 _ _ (by omega))) (hC.kp (h1 _ _ (by omega)) (fun b => h1 _ _ (by omega)))
/-- the class has moved -/
theorem MSt.cl (h : MSt σ T R y es fa img) (h1 : ∀ p b, 44 ≤ p → τ.1 p b = σ.1 p b) (h2 : ∀ p, 44 ≤ p → τ.2.1 p = σ.2.1 p) : MSt τ T R y es fa img := by
  obtain ⟨⟨b1, b2⟩, ⟨b3, b4⟩, ⟨⟨c1, c2, c3, c4⟩, c5, c6, c7, c8⟩, ⟨b6, b7⟩, b8⟩ := h
  refine ⟨⟨⟨by rw [h1 _ _ (by omega)]; exact b1.1, fun j x hj => by rw [h1 _ _ (by omega)]; exact b1.2 j x hj⟩, by rw [h1 _ _ (by omega)]; exact b2⟩, ⟨b3.kept (fun b _ => h1 _ _ (by omega)) (fun b => h1 _ _ (by omega)), by rw [h1 _ _ (by omega)]; exact b4⟩,
    ⟨⟨by rw [h1 _ _ (by omega)]; exact c1, by rw [h1 _ _ (by omega)]; exact c2, by rw [h1 _ _ (by omega)]; exact c3, by rw [h1 _ _ (by omega)]; exact c4⟩, by rw [h1 _ _ (by omega)]; exact c5, by rw [h2 _ (by omega)]; exact c6, by rw [h1 _ _ (by omega)]; exact c7, fun k v hk => by rw [h1 _ _ (by omega)]; exact c8 k v hk⟩,
    ⟨by rw [h1 _ _ (by omega)]; exact b6, fun i e hi => by rw [h1 _ _ (by omega), h1 _ _ (by omega)]; exact b7 i e hi⟩, fun i hi => ?_⟩
  obtain ⟨d1, d2⟩ := b8 i hi
  refine ⟨fun hn => by rw [h1 _ _ (by omega)]; exact d1 hn, fun z hz => ?_⟩
  obtain ⟨d3, e1, e2, e3, e4, e5⟩ := d2 z hz
  exact ⟨by rw [h1 _ _ (by omega)]; exact d3, by rw [h1 _ _ (by omega)]; exact e1, by rw [h1 _ _ (by omega)]; exact e2, by rw [h2 _ (by omega)]; exact e3, by rw [h1 _ _ (by omega)]; exact e4, fun k v hk => by rw [h1 _ _ (by omega)]; exact e5 k v hk⟩
/-- the reference's own rows have moved -/
theorem MSt.sc (h : MSt σ T R y es fa img) (hF : ScFr σ τ) : MSt τ T R y es fa img := by
  obtain ⟨⟨b1, b2⟩, ⟨b3, b4⟩, ⟨⟨c1, c2, c3, c4⟩, c5, c6, c7, c8⟩, ⟨b6, b7⟩, b8⟩ := h
  have h1 : ∀ p b, p < 53 → τ.1 p b = σ.1 p b := fun p b hp => hF.1 p b (by omega)
  refine ⟨⟨⟨by rw [h1 _ _ (by omega)]; exact b1.1, fun j x hj => by rw [h1 _ _ (by omega)]; exact b1.2 j x hj⟩, by rw [h1 _ _ (by omega)]; exact b2⟩, ⟨b3.kept (fun b _ => h1 _ _ (by omega)) (fun b => h1 _ _ (by omega)), by rw [h1 _ _ (by omega)]; exact b4⟩,
    ⟨⟨by rw [h1 _ _ (by omega)]; exact c1, by rw [h1 _ _ (by omega)]; exact c2, by rw [h1 _ _ (by omega)]; exact c3, by rw [h1 _ _ (by omega)]; exact c4⟩, by rw [h1 _ _ (by omega)]; exact c5, by rw [hF.2]; exact c6, by rw [h1 _ _ (by omega)]; exact c7, fun k v hk => by rw [h1 _ _ (by omega)]; exact c8 k v hk⟩,
    ⟨by rw [h1 _ _ (by omega)]; exact b6, fun i e hi => by rw [h1 _ _ (by omega), h1 _ _ (by omega)]; exact b7 i e hi⟩, fun i hi => ?_⟩
  obtain ⟨d1, d2⟩ := b8 i hi
  refine ⟨fun hn => by rw [h1 _ _ (by omega)]; exact d1 hn, fun z hz => ?_⟩
  obtain ⟨d3, e1, e2, e3, e4, e5⟩ := d2 z hz
  exact ⟨by rw [h1 _ _ (by omega)]; exact d3, by rw [h1 _ _ (by omega)]; exact e1, by rw [h1 _ _ (by omega)]; exact e2, by rw [hF.2]; exact e3, by rw [h1 _ _ (by omega)]; exact e4, fun k v hk => by rw [h1 _ _ (by omega)]; exact e5 k v hk⟩
theorem CSt.sc (h : CSt σ r r' a c T R y es fa img) (hF : ScFr σ τ) : CSt τ r r' a c T R y es fa img := h.m (fun p b hp => hF.1 p b (by omega)) (fun p _ => by rw [hF.2]) (fun p _ => by rw [hF.2])
/-- the end of a call that changes nothing but what is kept for later -/
theorem fin_q (hC : CSt σ r r' a c T R y es fa img) (hM : MSt σ T R y es fa img) (hv : vA T R y es img) : Inv σ := ⟨r, r', a, c, T, R, y, es, fa, img, hC, hM, hv⟩
theorem CSt.st (h : CSt σ r r' a c T R y es fa img) (hF : StFr σ τ) (hS : StC τ R y.1) : CSt τ r r' a c T R y es fa img := h.ca (fun p b hp => hF.1 p b (by omega)) (fun p _ => by rw [hF.2.1]) (h.1.2.2.2.2.2.kp (by rw [hF.2.1])) hS (h.2.2.2.2.2.2.2.1.kp (fun b hb => hF.1 _ _ (by omega))) (h.2.2.2.2.2.2.2.2.kp (hF.1 _ _ (by omega)) (fun b => hF.1 _ _ (by omega)))
end IV
section B1
theorem b_fault : Both mX11_fault mX12_fault [] := by
  rintro σ ⟨r, r', a, c, T, R, y, es, fa, img, hC, hM, hv⟩
  refine ok_cfault ⟨_, rfl, ok_mfault ⟨?_, fin_q hC hM hv⟩⟩
  rw [hC.2.1.2, hM.1.2]
theorem b_told (x : Int32) : Both mX11_told mX12_told [.int x] := by
  rintro σ ⟨r, r', a, c, T, R, y, es, fa, img, hC, hM, hv⟩
  refine ok_ctold (hC.cp hv) ⟨_, rfl, ok_mtold (hM.mp hv) ⟨?_, fin_q hC hM hv⟩⟩
  rw [hC.2.1.1.1, hM.1.1.1, hC.2.2.2.1.2.1, hM.2.2.1.2.1, hC.2.2.2.1.2.2.2.1, hM.2.2.1.2.2.2.1, hC.2.2.2.2.1.1, hM.2.2.2.1.1]
theorem b_key (x z : Int32) : Both mX11_key mX12_key [.int x, .int z] := by
  rintro σ ⟨r, r', a, c, T, R, y, es, fa, img, hC, hM, hv⟩
  exact ok_ckey (hC.cp hv) ⟨_, rfl, ok_mkey (hM.mp hv) ⟨rfl, fin_q hC hM hv⟩⟩
theorem b_fewest (x : Int32) : Both mX11_fewest mX12_fewest [.int x] := by
  rintro σ ⟨r, r', a, c, T, R, y, es, fa, img, hC, hM, hv⟩
  refine ok_cfewest (hC.cp hv) hC.2.2.2.2.2.2.1 (fun τ f1 f2 => ⟨_, rfl, ?_⟩)
  have hM1 : MSt τ T R y es fa img := hM.cl (fun p b hp => f1.1 p b (by omega)) (fun p hp => f1.2.2 p (by omega))
  exact ok_mfewest (hM1.mp hv) (fun τ2 g1 => ⟨rfl, fin_q ((hC.st f1 f2).sc g1) (hM1.sc g1) hv⟩)
theorem b_way (x z : Int32) : Both mX11_way mX12_way [.int x, .int z] := by
  rintro σ ⟨r, r', a, c, T, R, y, es, fa, img, hC, hM, hv⟩
  refine ok_cway (hC.cp hv) hC.2.2.2.2.2.2.1 (fun τ f1 f2 => ⟨_, rfl, ?_⟩)
  have hM1 : MSt τ T R y es fa img := hM.cl (fun p b hp => f1.1 p b (by omega)) (fun p hp => f1.2.2 p (by omega))
  exact ok_mway (hM1.mp hv) (fun τ2 g1 => ⟨rfl, fin_q ((hC.st f1 f2).sc g1) (hM1.sc g1) hv⟩)
theorem b_never (x : Int32) : Both mX11_never mX12_never [.int x] := by
  rintro σ ⟨r, r', a, c, T, R, y, es, fa, img, hC, hM, hv⟩
  refine ok_cnever (hC.cp hv) hC.2.2.2.2.2.2.1 (fun τ f1 f2 => ⟨_, rfl, ?_⟩)
  have hM1 : MSt τ T R y es fa img := hM.cl (fun p b hp => f1.1 p b (by omega)) (fun p hp => f1.2.2 p (by omega))
  exact ok_mnever (hM1.mp hv) (fun τ2 g1 => ⟨rfl, fin_q ((hC.st f1 f2).sc g1) (hM1.sc g1) hv⟩)
theorem b_farthest (x : Int32) : Both mX11_farthest mX12_farthest [.int x] := by
  rintro σ ⟨r, r', a, c, T, R, y, es, fa, img, hC, hM, hv⟩
  refine ok_cfarthest (hC.cp hv) hC.2.2.2.2.2.2.1 (fun τ f1 f2 => ⟨_, rfl, ?_⟩)
  have hM1 : MSt τ T R y es fa img := hM.cl (fun p b hp => f1.1 p b (by omega)) (fun p hp => f1.2.2 p (by omega))
  exact ok_mfarthest (hM1.mp hv) (fun τ2 g1 => ⟨rfl, fin_q ((hC.st f1 f2).sc g1) (hM1.sc g1) hv⟩)
theorem b_quick (x z : Int32) : Both mX11_quick mX12_quick [.int x, .int z] := by
  rintro σ ⟨r, r', a, c, T, R, y, es, fa, img, hC, hM, hv⟩
  refine ok_cquick (hC.cp hv) hC.2.2.2.2.2.2.1 (fun τ f1 f2 => ⟨_, rfl, ?_⟩)
  have hM1 : MSt τ T R y es fa img := hM.cl (fun p b hp => f1.1 p b (by omega)) (fun p hp => f1.2.2 p (by omega))
  exact ok_mquick (hM1.mp hv) (fun τ2 g1 => ⟨rfl, fin_q ((hC.st f1 f2).sc g1) (hM1.sc g1) hv⟩)
theorem b_least (x : Int32) : Both mX11_least mX12_least [.int x] := by
  rintro σ ⟨r, r', a, c, T, R, y, es, fa, img, hC, hM, hv⟩
  refine ok_cleast (hC.cp hv) hC.2.2.2.2.2.2.2.2 hC.2.2.2.2.2.2.1 (fun τ w f1 f2 f3 f4 => ⟨_, rfl, ?_⟩)
  have hM1 : MSt τ T R y es fa img := hM.cl (fun p b hp => f1.1 p b (by omega)) (fun p hp => f1.2.2 p (by omega))
  have hC1 : CSt τ r r' a c T R y es fa img := hC.ca (fun p b hp => f1.1 p b (by omega)) (fun p _ => by rw [f1.2.1]) (hC.1.2.2.2.2.2.kp (by rw [f1.2.1])) f3 (hC.2.2.2.2.2.2.2.1.kp (fun b hb => f1.1 _ _ (by omega))) f2
  exact ok_mleast (hM1.mp hv) (fun τ2 w2 g1 g2 => ⟨by rw [g2.one f4], fin_q (hC1.sc g1) (hM1.sc g1) hv⟩)
theorem b_struck (x z u : Int32) : Both mX11_struck mX12_struck [.int x, .int z, .int u] := by
  rintro σ ⟨r, r', a, c, T, R, y, es, fa, img, hC, hM, hv⟩
  refine ok_cstruck (hC.cp hv) hC.2.2.2.2.2.2.1 (fun τ f1 f2 => ⟨_, rfl, ?_⟩)
  have hM1 : MSt τ T R y es fa img := hM.cl (fun p b hp => f1.1 p b (by omega)) (fun p hp => f1.2.2 p (by omega))
  have hC1 : CSt τ r r' a c T R y es fa img := hC.ca (fun p b hp => f1.1 p b (by omega)) (fun p _ => by rw [f1.2.1]) (hC.1.2.2.2.2.2.kp (by rw [f1.2.1])) f2 (hC.2.2.2.2.2.2.2.1.kp (fun b hb => f1.1 _ _ (by omega))) (hC.2.2.2.2.2.2.2.2.kp (f1.1 _ _ (by omega)) (fun b => f1.1 _ _ (by omega)))
  exact ok_mstruck (hM1.mp hv) (fun τ2 g1 => ⟨rfl, fin_q (hC1.sc g1) (hM1.sc g1) hv⟩)
theorem b_lost (x : Int32) : Both mX11_lost mX12_lost [.int x] := by
  rintro σ ⟨r, r', a, c, T, R, y, es, fa, img, hC, hM, hv⟩
  refine ok_clost (hC.cp hv) (fun τ w f1 f2 => ⟨_, rfl, ?_⟩)
  have hM1 : MSt τ T R y es fa img := hM.cl (fun p b hp => f1.1 p b (by omega)) (fun p hp => by rw [f1.2])
  have hC1 : CSt τ r r' a c T R y es fa img := hC.ca (fun p b hp => f1.1 p b (by omega)) (fun p _ => by rw [f1.2]) (hC.1.2.2.2.2.2.kp (by rw [f1.2])) (hC.2.2.2.2.2.2.1.kp (fun p b q1 q2 => f1.1 _ _ (by omega)) (by rw [f1.2])) (hC.2.2.2.2.2.2.2.1.kp (fun b hb => f1.1 _ _ (by omega))) (hC.2.2.2.2.2.2.2.2.kp (f1.1 _ _ (by omega)) (fun b => f1.1 _ _ (by omega)))
  exact ok_mlost (hM1.mp hv) (fun w2 g2 => ⟨by rw [g2.one f2], fin_q hC1 hM1 hv⟩)
theorem b_game (x z u : Int32) : Both mX11_game mX12_game [.int x, .int z, .int u] := by
  rintro σ ⟨r, r', a, c, T, R, y, es, fa, img, hC, hM, hv⟩
  refine ok_cgame (hC.cp hv) (fun τ f1 => ⟨_, rfl, ?_⟩)
  have hM1 : MSt τ T R y es fa img := hM.cl (fun p b hp => f1.1 p b (by omega)) (fun p hp => by rw [f1.2])
  have hC1 : CSt τ r r' a c T R y es fa img := hC.ca (fun p b hp => f1.1 p b (by omega)) (fun p _ => by rw [f1.2]) (hC.1.2.2.2.2.2.kp (by rw [f1.2])) (hC.2.2.2.2.2.2.1.kp (fun p b q1 q2 => f1.1 _ _ (by omega)) (by rw [f1.2])) (hC.2.2.2.2.2.2.2.1.kp (fun b hb => f1.1 _ _ (by omega))) (hC.2.2.2.2.2.2.2.2.kp (f1.1 _ _ (by omega)) (fun b => f1.1 _ _ (by omega)))
  exact ok_mgame (hM1.mp hv) (fun τ2 g1 => ⟨rfl, fin_q (hC1.sc g1) (hM1.sc g1) hv⟩)
theorem b_judge : Both mX11_judge mX12_judge [] := by
  rintro σ ⟨r, r', a, c, T, R, y, es, fa, img, hC, hM, hv⟩
  exact ok_cjudge (hC.cp hv) hC.2.2.2.2.1 hv.2.2.2.1 ⟨_, rfl, ok_mjudge (hM.mp hv) hv.2.2.1.2.1 hM.2.2.2.1 hv.2.2.2.1 ⟨rfl, fin_q hC hM hv⟩⟩
theorem b_targetAt (x : Int32) : Both mX11_targetAt mX12_targetAt [.int x] := by
  rintro σ ⟨r, r', a, c, T, R, y, es, fa, img, hC, hM, hv⟩
  exact ok_ctargetAt hC.2.2.2.1.2.2.2.1 hv.2.2.1.2.2.2.1 hC.2.2.2.1.2.2.2.2 ⟨_, rfl, ok_mtargetAt hM.2.2.1.2.2.2.1 hv.2.2.1.2.2.2.1 hM.2.2.1.2.2.2.2 ⟨rfl, fin_q hC hM hv⟩⟩
theorem b_list : Both mX11_list mX12_list [] := by
  rintro σ ⟨r, r', a, c, T, R, y, es, fa, img, hC, hM, hv⟩
  refine ok_clist (hC.cp hv) hC.2.2.2.1.2.2.2 hv.2.2.1.2.2.2.1 hv.2.2.1.2.2.2.2 hC.1.2.2.2.2.2 hC.2.2.2.2.2.2.1 (fun τ w a' c' f1 f2 f3 f4 => ⟨_, rfl, ?_⟩)
  have hM1 : MSt τ T R y es fa img := hM.cl (fun p b hp => f1.1 p b (by omega)) (fun p hp => f1.2.2 p (by omega))
  have hC1 : CSt τ r r' a' c' T R y es fa img := hC.ca (fun p b hp => f1.1 p b (by omega)) (fun p hp => f1.2.1 p (by omega)) f2 f3 (hC.2.2.2.2.2.2.2.1.kp (fun b hb => f1.1 _ _ (by omega))) (hC.2.2.2.2.2.2.2.2.kp (f1.1 _ _ (by omega)) (fun b => f1.1 _ _ (by omega)))
  exact ok_mlist (hM1.mp hv) hM1.mrt hv.2.2.1.2.2.2.1 hv.2.2.1.2.2.2.2 (fun τ2 w2 g1 g2 => ⟨by rw [g2.one f4], fin_q (hC1.sc g1) (hM1.sc g1) hv⟩)
end B1
