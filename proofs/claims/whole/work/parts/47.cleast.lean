/-! ===== the least cost: the class ===== -/
def CQc (τ : Wd) (q : List En) : Prop := τ.1 22 3 = nI q.length ∧ (∀ (j : Nat) (e : En), q[j]? = some e → τ.1 24 j = nI (ps e.1) ∧ τ.1 25 j = nI e.2.2.2) ∧ ∀ n, n < 131072 → (seen τ n = true ↔ ∃ e ∈ q, ps e.1 = n)
def CWc (τ : Wd) (q : List En) : Prop := ∀ v, v < 100 → (∀ e, bfF v q = some e → τ.1 31 v = nI e.2.2.2) ∧ (bfF v q = none → τ.1 31 v = -1)
def CBc (τ : Wd) (m : Nat) (q : List En) : Prop := CQc τ q ∧ CWc τ q ∧ τ.1 30 3 = nI (cM m (fun _ => true) q)
def CcF (σ τ : Wd) : Prop := (∀ a b, ¬ (a = 24 ∨ a = 25 ∨ a = 31 ∨ (a = 22 ∧ b = 3) ∨ (a = 30 ∧ b = 3)) → τ.1 a b = σ.1 a b) ∧ τ.2.2 = σ.2.2 ∧ ∀ a, a ≠ 23 → τ.2.1 a = σ.2.1 a
def CoF (σ τ : Wd) : Prop := (∀ a b, ¬ (a = 24 ∨ a = 25 ∨ a = 31 ∨ a = 32 ∨ (a = 22 ∧ (b = 3 ∨ b = 4)) ∨ (a = 30 ∧ 3 ≤ b)) → τ.1 a b = σ.1 a b) ∧ τ.2.2 = σ.2.2 ∧ ∀ a, a ≠ 23 → τ.2.1 a = σ.2.1 a
def sumK (tt : Nat → Nat) : Nat → Nat
  | 0 => 0
  | k + 1 => sumK tt k + tt k
def KI (R : Rk) (s : St) (q : List En) (tt : Nat → Nat) : Prop :=
  bfV R.2.2.2.1 q ∧ (∀ (i j : Nat) (e e' : En), i ≤ j → q[i]? = some e → q[j]? = some e' → e.2.2.2 ≤ e'.2.2.2) ∧
  (∀ (j : Nat) (e : En), q[j]? = some e → e.2.2.2 ≤ 99 * j) ∧
  (∀ e ∈ q, ∃ ks, okP R ks ∧ goP R s ks = e.1 ∧ cstP R ks = e.2.2.2) ∧
  (∀ k, k < R.2.2.2.2.length → tt k ≤ q.length ∧ ∀ (j : Nat) (e : En), j < tt k → q[j]? = some e → ∃ e' ∈ q, e'.1 = nx R e.1 k ∧ e'.2.2.2 ≤ e.2.2.2 + kc R k) ∧
  (∀ k, k < R.2.2.2.2.length → ∀ (j : Nat) (e e' : En), tt k ≤ j → q[j]? = some e → e' ∈ q → e'.2.2.2 ≤ e.2.2.2 + kc R k) ∧
  ∃ e ∈ q, e.1 = s ∧ e.2.2.2 = 0
def cC (R : Rk) (q : List En) (tt : Nat → Nat) (k : Nat) : Nat := (q.getD (tt k) en0).2.2.2 + kc R k
def CoC (σ : Wd) (R : Rk) (s : St) : Prop := (σ.1 30 5 = 0 ∨ σ.1 30 5 = 1) ∧ (σ.1 30 5 = 1 → 0 < R.2.2.2.1 → ∀ v, v < R.2.2.2.1 → ∃ f, LeastN (leP R s v) f ∧ σ.1 31 v = iz f)
section CL
variable {D : Nat} {σ τ τ' : Wd} {Q : Option Value → Wd → Prop} {R : Rk} {s t : St} {q : List En} {tt : Nat → Nat} {k n m d r : Nat}
theorem sumK_up : ∀ K, k < K → sumK (upD tt k (tt k + 1)) K = sumK tt K + 1
  | K + 1, h => by
    show sumK (upD tt k (tt k + 1)) K + upD tt k (tt k + 1) K = sumK tt K + tt K + 1
    rcases Nat.lt_or_ge k K with h1 | h1
    · rw [sumK_up K h1, upD_n (by omega)]; omega
    · have e : K = k := by omega
      subst e
      rw [upD_s]
      have h2 : ∀ J, J ≤ K → sumK (upD tt K (tt K + 1)) J = sumK tt J := fun J => by
        induction J with
        | zero => intro _; rfl
        | succ J ih =>
          intro hJ
          show sumK _ J + upD tt K (tt K + 1) J = sumK tt J + tt J
          rw [ih (by omega), upD_n (by omega)]
      rw [h2 K (Nat.le_refl _)]
      omega
theorem sumK_le {L : Nat} : ∀ K, (∀ k, k < K → tt k ≤ L) → sumK tt K ≤ K * L
  | 0, _ => by simp [sumK]
  | K + 1, h => by
    have h1 := sumK_le K (fun k hk => h k (by omega))
    have h2 := h K (by omega)
    show sumK tt K + tt K ≤ (K + 1) * L
    rw [Nat.succ_mul]
    omega
theorem sumK_all {L : Nat} : ∀ K, (∀ k, k < K → tt k ≤ L) → K * L ≤ sumK tt K → ∀ k, k < K → tt k = L
  | K + 1, h, hs, k, hk => by
    have h1 := sumK_le (tt := tt) (L := L) K (fun k hk => h k (by omega))
    have h2 := h K (by omega)
    have hs2 : (K + 1) * L ≤ sumK tt K + tt K := hs
    rw [Nat.succ_mul] at hs2
    rcases Nat.lt_or_ge k K with h3 | h3
    · exact sumK_all K (fun k hk => h k (by omega)) (by omega) k h3
    · have e : k = K := by omega
      rw [e]; omega
theorem KI.same (h : KI R s q tt) (hk : k < R.2.2.2.2.length) (htk : tt k < q.length) {e1 : En} (h1 : e1 ∈ q) (h2 : e1.1 = nx R (q.getD (tt k) en0).1 k) : KI R s q (upD tt k (tt k + 1)) := by
  obtain ⟨a1, a2, a3, a4, a5, a6, a7⟩ := h
  have hg : q[tt k]? = some (q.getD (tt k) en0) := by rw [List.getD, List.getElem?_eq_getElem htk]; rfl
  refine ⟨a1, a2, a3, a4, fun k' hk' => ?_, fun k' hk' j e e' hj he he' => ?_, a7⟩
  · by_cases e : k' = k
    · subst e
      rw [upD_s]
      refine ⟨htk, fun j e hj he => ?_⟩
      rcases Nat.lt_or_ge j (tt k') with h3 | h3
      · exact (a5 k' hk').2 j e h3 he
      · have ej : j = tt k' := by omega
        rw [ej, hg] at he
        have ee := Option.some.inj he
        rw [← ee]
        exact ⟨e1, h1, h2, a6 k' hk' _ _ e1 (Nat.le_refl _) hg h1⟩
    · rw [upD_n e]
      exact a5 k' hk'
  · refine a6 k' hk' j e e' ?_ he he'
    by_cases e5 : k' = k
    · subst e5
      rw [upD_s] at hj; omega
    · rw [upD_n e5] at hj; exact hj
theorem KI.add (hv : vR n R) (h : KI R s q tt) (hk : k < R.2.2.2.2.length) (htk : tt k < q.length) (hmin : ∀ k', k' < R.2.2.2.2.length → tt k' < q.length → cC R q tt k ≤ cC R q tt k') (hV : bfV R.2.2.2.1 (q ++ [(nx R (q.getD (tt k) en0).1 k, 0, 0, cC R q tt k)])) : KI R s (q ++ [(nx R (q.getD (tt k) en0).1 k, 0, 0, cC R q tt k)]) (upD tt k (tt k + 1)) := by
  obtain ⟨a1, a2, a3, a4, a5, a6, a7⟩ := h
  have hg : q[tt k]? = some (q.getD (tt k) en0) := by rw [List.getD, List.getElem?_eq_getElem htk]; rfl
  obtain ⟨nw, hnw⟩ : ∃ nw : En, nw = (nx R (q.getD (tt k) en0).1 k, 0, 0, cC R q tt k) := ⟨_, rfl⟩
  rw [← hnw] at hV ⊢
  have hd : nw.2.2.2 = cC R q tt k := by rw [hnw]
  have hkc := kc_b hv hk
  have hle : ∀ e ∈ q, e.2.2.2 ≤ nw.2.2.2 := fun e he => by rw [hd]; exact a6 k hk _ _ e (Nat.le_refl _) hg he
  have hix : ∀ (j : Nat) (e : En), (q ++ [nw])[j]? = some e → (j < q.length ∧ q[j]? = some e) ∨ (j = q.length ∧ e = nw) := fun j e hj => by
    rcases Nat.lt_or_ge j q.length with h1 | h1
    · rw [List.getElem?_append_left h1] at hj
      exact Or.inl ⟨h1, hj⟩
    · rw [List.getElem?_append_right h1] at hj
      have hz : j - q.length = 0 := by
        rcases Nat.eq_zero_or_pos (j - q.length) with h | h
        · exact h
        · rw [List.getElem?_eq_none (by simp; omega)] at hj; cases hj
      rw [hz] at hj
      exact Or.inr ⟨by omega, by simpa using hj.symm⟩
  have hmem : ∀ e ∈ q ++ [nw], e ∈ q ∨ e = nw := fun e he => by
    rcases List.mem_append.mp he with h1 | h1
    · exact Or.inl h1
    · exact Or.inr (List.mem_singleton.mp h1)
  refine ⟨hV, fun i j e e' hij he he' => ?_, fun j e he => ?_, fun e he => ?_, fun k' hk' => ?_, fun k' hk' j e e' hj he he' => ?_, ?_⟩
  · rcases hix i e he with ⟨i1, i2⟩ | ⟨i1, i2⟩
    · rcases hix j e' he' with ⟨j1, j2⟩ | ⟨j1, j2⟩
      · exact a2 i j e e' hij i2 j2
      · rw [j2]; exact hle e (List.mem_of_getElem? i2)
    · rcases hix j e' he' with ⟨j1, j2⟩ | ⟨j1, j2⟩
      · omega
      · rw [i2, j2]; exact Nat.le_refl _
  · rcases hix j e he with ⟨i1, i2⟩ | ⟨i1, i2⟩
    · exact a3 j e i2
    · have h3 := a3 _ _ hg
      rw [i2, hd, i1]
      unfold cC
      omega
  · rcases hmem e he with h1 | h1
    · exact a4 e h1
    · obtain ⟨ks, k1, k2, k3⟩ := a4 _ (List.mem_of_getElem? hg)
      rw [h1, hd, hnw]
      refine ⟨ks ++ [k], okP_app k1 hk, by rw [goP_app, k2], by rw [cstP_app, k3]; rfl⟩
  · by_cases e : k' = k
    · subst e
      rw [upD_s]
      refine ⟨by rw [List.length_append]; omega, fun j e hj he => ?_⟩
      rcases hix j e he with ⟨i1, i2⟩ | ⟨i1, i2⟩
      · rcases Nat.lt_or_ge j (tt k') with h3 | h3
        · obtain ⟨e', b1, b2, b3⟩ := (a5 k' hk').2 j e h3 i2
          exact ⟨e', List.mem_append_left _ b1, b2, b3⟩
        · have ej : j = tt k' := by omega
          rw [ej, hg] at i2
          have ee := Option.some.inj i2
          rw [← ee]
          exact ⟨nw, List.mem_append_right _ (List.mem_singleton.mpr rfl), by rw [hnw], by rw [hd]; exact Nat.le_refl _⟩
      · omega
    · rw [upD_n e]
      refine ⟨by rw [List.length_append]; have := (a5 k' hk').1; omega, fun j e hj he => ?_⟩
      have h3 := (a5 k' hk').1
      rcases hix j e he with ⟨i1, i2⟩ | ⟨i1, i2⟩
      · obtain ⟨e', b1, b2, b3⟩ := (a5 k' hk').2 j e hj i2
        exact ⟨e', List.mem_append_left _ b1, b2, b3⟩
      · omega
  · have hj2 : tt k' ≤ j := by
      by_cases e5 : k' = k
      · subst e5
        rw [upD_s] at hj; omega
      · rw [upD_n e5] at hj; exact hj
    rcases hix j e he with ⟨i1, i2⟩ | ⟨i1, i2⟩
    · rcases hmem e' he' with h1 | h1
      · exact a6 k' hk' j e e' hj2 i2 h1
      · rw [h1, hd]
        have h3 := hmin k' hk' (by omega)
        have hg2 : q[tt k']? = some (q.getD (tt k') en0) := by rw [List.getD, List.getElem?_eq_getElem (show tt k' < q.length by omega)]; rfl
        have h4 := a2 _ j _ e hj2 hg2 i2
        unfold cC at h3 ⊢
        omega
    · rcases hmem e' he' with h1 | h1
      · have := hle e' h1
        rw [i2]; omega
      · rw [i2, h1]; omega
  · obtain ⟨e, b1, b2, b3⟩ := a7
    exact ⟨e, List.mem_append_left _ b1, b2, b3⟩
theorem bfI_min {v j : Nat} {e x : En} (hf : bfF v q = some e) (hj : q[j]? = some x) (hx : x.1.1 = v) : bfI v q ≤ j := by
  rcases Nat.lt_or_ge j (bfI v q) with h | h
  · have h2 := List.not_of_lt_findIdx (p := fun e : En => decide (e.1.1 = v)) (xs := q) h
    obtain ⟨hl, hj2⟩ := List.getElem?_eq_some_iff.mp hj
    rw [hj2] at h2
    simp [hx] at h2
  · exact h
theorem KI.fin {v : Nat} (hv : vR n R) (h : KI R s q tt) (hx : bfF v q = none → ∀ k, k < R.2.2.2.2.length → tt k = q.length) : LeastN (leP R s v) (match bfF v q with | some e => (e.2.2.2 : Int) | none => -1) := by
  obtain ⟨a1, a2, a3, a4, a5, a6, a7⟩ := h
  obtain ⟨e0, z1, z2, z3⟩ := a7
  cases hb : bfF v q with
  | some e =>
    have he := List.mem_of_find?_eq_some hb
    have hev : e.1.1 = v := by simpa using List.find?_some hb
    refine Or.inr ⟨e.2.2.2, rfl, ?_, fun n' hn' => ?_⟩
    · obtain ⟨ks, k1, k2, k3⟩ := a4 e he
      exact ⟨ks, k1, by rw [k2]; exact hev, k3⟩
    · obtain ⟨ks, k1, k2, k3⟩ := hn'
      have hd := dij (R := R) (Sd := fun t d => ∃ x ∈ q, x.1 = t ∧ x.2.2.2 = d) (C := e.2.2.2) (v := v) (fun t d k ⟨x, x1, x2, x3⟩ hk => by
        obtain ⟨j, hj⟩ := List.getElem?_of_mem x1
        rcases Nat.lt_or_ge j (tt k) with h1 | h1
        · obtain ⟨e', b1, b2, b3⟩ := (a5 k hk).2 j x h1 hj
          exact Or.inl ⟨_, ⟨e', b1, by rw [b2, x2], rfl⟩, by omega⟩
        · exact Or.inr (by have := a6 k hk j x e h1 hj he; omega)) (fun t d ⟨x, x1, x2, x3⟩ ht => by
        obtain ⟨j, hj⟩ := List.getElem?_of_mem x1
        have := a2 _ j e x (bfI_min hb hj (by rw [x2]; exact ht)) (bfI_get hb) hj
        omega) ks s 0 ⟨e0, z1, z2, z3⟩ k1 k2
      omega
  | none =>
    refine Or.inl ⟨rfl, fun n' hn' => ?_⟩
    obtain ⟨ks, k1, k2, k3⟩ := hn'
    have hd := dij (R := R) (Sd := fun t d => ∃ x ∈ q, x.1 = t ∧ x.2.2.2 = d) (C := cstP R ks + 1) (v := v) (fun t d k ⟨x, x1, x2, x3⟩ hk => by
      obtain ⟨j, hj⟩ := List.getElem?_of_mem x1
      have hjl := (List.getElem?_eq_some_iff.mp hj).1
      obtain ⟨e', b1, b2, b3⟩ := (a5 k hk).2 j x (by rw [hx hb k hk]; exact hjl) hj
      exact Or.inl ⟨_, ⟨e', b1, by rw [b2, x2], rfl⟩, by omega⟩) (fun t d ⟨x, x1, x2, x3⟩ ht => by
      have h3 := List.find?_eq_none.mp hb x x1
      rw [← x2] at ht
      simp [ht] at h3) ks s 0 ⟨e0, z1, z2, z3⟩ k1 k2
    omega
theorem CWc.add {e : En} (h : CWc τ q) (hv : e.1.1 < 100) (ho : ∀ b, b ≠ e.1.1 → τ'.1 31 b = τ.1 31 b) (hs : (∃ x, bfF e.1.1 q = some x) → τ'.1 31 e.1.1 = τ.1 31 e.1.1) (hn : bfF e.1.1 q = none → τ'.1 31 e.1.1 = nI e.2.2.2) : CWc τ' (q ++ [e]) := by
  intro v hv2
  by_cases hve : v = e.1.1
  · subst hve
    cases hb : bfF e.1.1 q with
    | some x =>
      rw [hs ⟨x, hb⟩, bfF_add, hb]
      have g3 := (h _ hv).1 x hb
      refine ⟨fun y hy => ?_, fun hy => by cases hy⟩
      have : x = y := by simpa using hy
      rw [← this]; exact g3
    | none =>
      rw [bfF_add, hb, if_pos rfl]
      refine ⟨fun y hy => ?_, fun hy => by cases hy⟩
      have : e = y := by simpa using hy
      rw [← this]; exact hn hb
  · rw [ho v hve, bfF_add, if_neg (fun h => hve h.symm), Option.or_none]
    exact h v hv2
theorem CQc.add (h : CQc τ q) (hs : ∀ n, n < 131072 → seen τ' n = (decide (n = ps t) || seen τ n)) (a0 : τ'.1 22 3 = nI (q.length + 1)) (a1 : τ'.1 24 q.length = nI (ps t)) (a2 : ∀ b, b ≠ q.length → τ'.1 24 b = τ.1 24 b) (b1 : τ'.1 25 q.length = nI d) (b2 : ∀ b, b ≠ q.length → τ'.1 25 b = τ.1 25 b) : CQc τ' (q ++ [(t, 0, 0, d)]) := by
  refine ⟨by rw [a0]; simp, fun j e hj => ?_, fun n hn => ?_⟩
  · by_cases hlt : j < q.length
    · rw [List.getElem?_append_left hlt] at hj
      rw [a2 _ (by omega), b2 _ (by omega)]
      exact h.2.1 j e hj
    · rw [List.getElem?_append_right (by omega)] at hj
      have hz : j - q.length = 0 := by
        rcases Nat.eq_zero_or_pos (j - q.length) with h | h
        · exact h
        · rw [List.getElem?_eq_none (by simp; omega)] at hj; cases hj
      rw [hz] at hj
      have e1 : (t, 0, 0, d) = e := by simpa using hj
      have e2 : j = q.length := by omega
      subst e1; subst e2
      exact ⟨a1, b1⟩
  · rw [hs n hn]
    constructor
    · intro hh
      rw [Bool.or_eq_true] at hh
      rcases hh with hh | hh
      · exact ⟨(t, 0, 0, d), List.mem_append_right _ List.mem_cons_self, (of_decide_eq_true hh).symm⟩
      · obtain ⟨e, h1, h2⟩ := (h.2.2 n hn).mp hh
        exact ⟨e, List.mem_append_left _ h1, h2⟩
    · intro ⟨e, h1, h2⟩
      rw [Bool.or_eq_true]
      rcases List.mem_append.mp h1 with h1 | h1
      · exact Or.inr ((h.2.2 n hn).mpr ⟨e, h1, h2⟩)
      · have e1 : e = (t, 0, 0, d) := by simpa using h1
        rw [e1] at h2
        exact Or.inl (decide_eq_true h2.symm)
theorem ok_cmeet (hm0 : 0 < m) (hm : m ≤ 100) (hB : CBc σ m q) (hV : bfV m q) (ht : vS m t) (hl : (∀ e ∈ q, e.1 ≠ t) → q.length < 60200) (hdq : ∀ e ∈ q, e.2.2.2 < 100000000) (hin : (∃ e ∈ q, e.1 = t) → Q none σ) (hout : (∀ e ∈ q, e.1 ≠ t) → ∀ τ, CBc τ m (q ++ [(t, 0, 0, d)]) → CcF σ τ → Q none τ) : Ok (D + 1) mX2_meet [.ref 30, .int (nI (ps t)), .int (nI d)] σ Q := by
  obtain ⟨hCQ, hCW, hmi⟩ := hB
  have hpl := ps_lt hm ht
  have hsh : t.1 < 100 := by have := ht.1; omega
  have e1 := ps_sh hm ht
  have hseen := hCQ.2.2 (ps t) hpl
  have hiff : (∃ e ∈ q, ps e.1 = ps t) ↔ ∃ e ∈ q, e.1 = t := ⟨fun ⟨e, h1, h2⟩ => ⟨e, h1, ps_inj hm (hV.2 e h1) ht h2⟩, fun ⟨e, h1, h2⟩ => ⟨e, h1, by rw [h2]⟩⟩
  have hcm := cM_add (W := fun _ => true) (q := q) (m := m) (e := (t, 0, 0, d)) (show t.1 < m by have := ht.1; omega)
  have after : (∀ e ∈ q, e.1 ≠ t) → ∀ σ1 : Wd, σ1.1 = σ.1 → σ1.2.2 = σ.2.2 → (∀ a, a ≠ 23 → σ1.2.1 a = σ.2.1 a) → (∀ n, n < 131072 → seen σ1 n = (decide (n = ps t) || seen σ n)) → V mX2_meet (D + 1) 11 [some (.ref 30), some (.int (nI (ps t))), some (.int (nI d))] [] σ1 Q := by
    intro hne σ1 g1 g2 g3 g4
    have hq := hout hne
    obtain ⟨σ2, hσ2⟩ : ∃ σ2, σ2 = setI (setI (setI σ1 24 q.length (nI (ps t))) 25 q.length (nI d)) 22 3 (nI (q.length + 1)) := ⟨_, rfl⟩
    have k1 : ∀ a b, ¬ (a = 24 ∨ a = 25 ∨ (a = 22 ∧ b = 3)) → σ2.1 a b = σ.1 a b := fun a b h => by
      rw [hσ2, setI_ne (by omega), setI_ne (by omega), setI_ne (by omega), g1]
    have hCQ2 : ∀ τ' : Wd, (∀ a b, a = 22 ∨ a = 24 ∨ a = 25 → τ'.1 a b = σ2.1 a b) → τ'.2 = σ2.2 → CQc τ' (q ++ [(t, 0, 0, d)]) := by
      intro τ' f1 f2
      refine CQc.add hCQ (fun n hn => ?_) ?_ ?_ ?_ ?_ ?_
      · have : seen τ' n = seen σ1 n := by unfold seen; rw [f2, hσ2]; rfl
        rw [this]; exact g4 n hn
      · rw [f1 _ _ (by omega), hσ2, setI_same]
      · rw [f1 _ _ (by omega), hσ2, setI_ne (by omega), setI_ne (by omega), setI_same]
      · intro b hb; rw [f1 _ _ (by omega), hσ2, setI_ne (by omega), setI_ne (by omega), setI_ne (by omega), g1]
      · rw [f1 _ _ (by omega), hσ2, setI_ne (by omega), setI_same]
      · intro b hb; rw [f1 _ _ (by omega), hσ2, setI_ne (by omega), setI_ne (by omega), setI_ne (by omega), g1]
    have hold : (∃ y, bfF t.1 q = some y) → Q none σ2 := by
      intro hy
      refine hq σ2 ⟨hCQ2 σ2 (fun _ _ _ => rfl) rfl, ?_, ?_⟩ ⟨fun a b h => k1 a b (by omega), by rw [hσ2]; exact g2, fun a ha => by rw [hσ2]; exact g3 a ha⟩
      · exact CWc.add hCW hsh (fun b _ => k1 _ _ (by omega)) (fun _ => k1 _ _ (by omega)) (fun hb => by obtain ⟨y, hy⟩ := hy; rw [hb] at hy; cases hy)
      · rw [k1 _ _ (by omega), hmi]
        obtain ⟨y, hy⟩ := hy
        rw [if_neg (fun h => by rw [hy] at h; cases h.2)] at hcm
        rw [← hcm]; rfl
    have hnew : bfF t.1 q = none → Q none (setI (setI σ2 31 t.1 (nI d)) 30 3 (nI (cM m (fun _ => true) (q ++ [(t, 0, 0, d)])))) := by
      intro hy
      refine hq _ ⟨hCQ2 _ (fun a b h => by rw [setI_ne (by omega), setI_ne (by omega)]) rfl, ?_, by rw [setI_same]⟩ ⟨fun a b h => by rw [setI_ne (by omega), setI_ne (by omega), k1 a b (by omega)], by show σ2.2.2 = _; rw [hσ2]; exact g2, fun a ha => by show σ2.2.1 a = _; rw [hσ2]; exact g3 a ha⟩
      refine CWc.add hCW hsh (fun b hb => ?_) (fun hz => by obtain ⟨y, hz⟩ := hz; rw [hy] at hz; cases hz) (fun _ => ?_)
      · have hb2 : b ≠ t.1 := hb
        rw [setI_ne (by omega), setI_ne (by omega), k1 _ _ (by omega)]
      · rw [setI_ne (by omega), setI_same]
    refine v_aload_n dX2_meet_11 rfl ?_
    refine v_getR (q := 22) dX2_meet_12 fl_RX2_29 rfl rfl ?_
    refine v_iload_n dX2_meet_15 rfl ?_
    refine v_iload_n dX2_meet_16 rfl ?_
    refine v_callV2 dX2_meet_17 mv_RX2_89 rfl rfl (Nat.le_of_ble_eq_true rfl) ?_
    refine ok_rowsAppend (c := q.length) (by rw [g1]; exact hCQ.1) (hl hne) ?_
    rw [← hσ2]
    show V _ _ _ _ _ _ _
    refine v_aload_n dX2_meet_20 rfl ?_
    refine v_getR (q := 31) dX2_meet_21 fl_RX2_9 rfl rfl ?_
    refine v_iload_n dX2_meet_24 rfl ?_
    refine v_callS1 dX2_meet_25 ms_RX2_92 (Nat.le_of_ble_eq_true rfl) ?_
    refine ok_shownIn ?_
    rw [e1]
    show V _ _ _ _ (_ :: _) _ _
    refine v_callS2 dX2_meet_28 ms_RX2_61 (Nat.le_of_ble_eq_true rfl) ?_
    refine ok_at rfl (by decide) ?_
    rw [vAt_nI (by omega) (by omega), k1 _ _ (by omega)]
    show V _ _ _ _ (_ :: _) _ _
    refine v_iconst dX2_meet_31 ?_
    refine v_icmp_ne dX2_meet_32 (fun zc32 => ?_) (fun zc32 => ?_)
    · have hfnd : ∃ y, bfF t.1 q = some y := by
        cases hb : bfF t.1 q with
        | some y => exact ⟨y, rfl⟩
        | none => exact absurd ((hCW _ hsh).2 hb) zc32
      refine v_return dX2_meet_57 rfl ?_
      first | exact hold hfnd | exact hnw
    · have hfnd : bfF t.1 q = none := by
        cases hb : bfF t.1 q with
        | none => rfl
        | some y =>
          have h1 := (hCW _ hsh).1 y hb
          have h2 := hdq y (List.mem_of_find?_eq_some hb)
          rw [zc32, iz_nI, show (-1 : Int32) = iz (-1) from rfl, iz_eq (by omega) (by omega) (by omega) (by omega)] at h1
          omega
      have hnw := hnew hfnd
      rw [if_pos ⟨rfl, hfnd⟩] at hcm
      refine v_aload_n dX2_meet_35 rfl ?_
      refine v_getR (q := 31) dX2_meet_36 fl_RX2_9 rfl rfl ?_
      refine v_iload_n dX2_meet_39 rfl ?_
      refine v_callS1 dX2_meet_40 ms_RX2_92 (Nat.le_of_ble_eq_true rfl) ?_
      refine ok_shownIn ?_
      rw [e1]
      show V _ _ _ _ (_ :: _) _ _
      refine v_iload_n dX2_meet_43 rfl ?_
      refine v_callS3 dX2_meet_44 ms_RX2_65 (Nat.le_of_ble_eq_true rfl) ?_
      refine ok_put rfl (by decide) ?_
      rw [wPut_nI (by omega) (by omega)]
      show V _ _ _ _ _ _ _
      refine v_aload_n dX2_meet_47 rfl ?_
      refine v_dup dX2_meet_48 rfl ?_
      refine v_getI dX2_meet_49 fl_RX2_18 rfl ?_
      rw [setI_ne (by omega), k1 _ _ (by omega), hmi, ← hcm]
      refine v_iconst dX2_meet_52 ?_
      refine v_isub dX2_meet_53 ?_
      rw [nI_pred]
      refine v_putI dX2_meet_54 fp_RX2_18 rfl ?_
      refine v_return dX2_meet_57 rfl ?_
      first | exact hold hfnd | exact hnw
  refine ok_enter rfl (Nat.le_of_ble_eq_true rfl) ?_
  refine v_aload_n dX2_meet_0 rfl ?_
  refine v_getR (q := 22) dX2_meet_1 fl_RX2_29 rfl rfl ?_
  refine v_iload_n dX2_meet_4 rfl ?_
  refine v_callV1 dX2_meet_5 mv_RX2_85 rfl rfl (Nat.le_of_ble_eq_true rfl) ?_
  refine ok_mark hpl (fun hs1 => ?_) (fun hs1 σ1 g1 g2 g3 g4 => ?_)
  · show V _ _ _ _ (_ :: _) _ _
    refine v_if_eq dX2_meet_8 (fun _ => ?_) (fun z => absurd rfl z)
    refine v_return dX2_meet_57 rfl ?_
    exact hin (hiff.mp (hseen.mp hs1))
  show V _ _ _ _ (_ :: _) _ _
  refine v_if_eq dX2_meet_8 (fun zc8 => ?_) (fun zc8 => ?_)
  · exact absurd zc8 (by decide)
  · exact after (fun e he h2 => by have := hseen.mpr (hiff.mpr ⟨e, he, h2⟩); rw [hs1] at this; cases this) σ1 g1 g2 g3 g4
def ChF (σ τ : Wd) : Prop := (∀ a b, ¬ (a = 30 ∧ b = 4) → τ.1 a b = σ.1 a b) ∧ τ.2 = σ.2
theorem ok_cheapest (hr : vIsR r) (hR : RepR σ r R) (hv : vR 8 R) (hC : CQc σ q) (hT : ∀ k, k < 8 → σ.1 32 k = nI (tt k)) (hql : q.length ≤ 60200) (htl : ∀ k, k < R.2.2.2.2.length → tt k ≤ q.length) (hdq : ∀ e ∈ q, e.2.2.2 < 100000000) (h1 : (∀ k, k < R.2.2.2.2.length → tt k = q.length) → ∀ τ, ChF σ τ → Q (some (.int (-1))) τ) (h2 : ∀ k τ, k < R.2.2.2.2.length → tt k < q.length → (∀ k', k' < R.2.2.2.2.length → tt k' < q.length → cC R q tt k ≤ cC R q tt k') → ChF σ τ → τ.1 30 4 = nI (cC R q tt k) → Q (some (.int (nI k))) τ) : Ok (D + 1) mX2_cheapestKey [.ref 30, .ref r] σ Q := by
  have hK := hv.n9
  have hr12 : r + 4 < 13 ∧ 3 ≤ r := by rcases hr with rfl | rfl <;> omega
  have hcc : ∀ k, k < R.2.2.2.2.length → tt k < q.length → cC R q tt k < 100000100 := fun k hk ht => by
    have h3 := hdq (q.getD (tt k) en0) (getD_mem ht)
    have h4 := (kc_b hv hk).2
    unfold cC
    omega
  have loop : ∀ j k τ b x4 x5, k + j = R.2.2.2.2.length → ChF σ τ → ((b = -1 ∧ ∀ k', k' < k → tt k' = q.length) ∨ ∃ b' : Nat, b = nI b' ∧ b' < k ∧ tt b' < q.length ∧ (∀ k', k' < k → tt k' < q.length → cC R q tt b' ≤ cC R q tt k') ∧ τ.1 30 4 = nI (cC R q tt b')) → V mX2_cheapestKey (D + 1) 4 [some (.ref 30), some (.ref r), some (.int b), some (.int (nI k)), x4, x5] [] τ Q := by
    intro j
    induction j with
    | zero =>
      intro k τ b x4 x5 hk hF hb
      obtain rfl : k = R.2.2.2.2.length := by omega
      have h4 : τ.1 r 4 = nI R.2.2.2.2.length := by rw [hF.1 _ _ (by omega)]; exact hR.2.2.2.2.1
      refine v_iload_n dX2_cheapestKey_4 rfl ?_
      refine v_aload_n dX2_cheapestKey_5 rfl ?_
      refine v_getI dX2_cheapestKey_6 fl_RX2_73 hr.lay ?_
      rw [h4]
      refine v_icmp_ge dX2_cheapestKey_9 (fun zc9 => ?_) (fun zc9 => ?_)
      · refine v_iload_n dX2_cheapestKey_85 rfl ?_
        refine v_ireturn dX2_cheapestKey_86 rfl (rfl) ?_
        rcases hb with ⟨rfl, hb⟩ | ⟨b', rfl, q1, q2, q3, q4⟩
        · exact h1 hb τ hF
        · exact h2 b' τ q1 q2 q3 hF q4
      · exact absurd (nI_le (Nat.le_refl _) (by omega)) zc9
    | succ j ih =>
      intro k τ b x4 x5 hk hF hb
      have hkl : k < R.2.2.2.2.length := by omega
      have h4 : τ.1 r 4 = nI R.2.2.2.2.length := by rw [hF.1 _ _ (by omega)]; exact hR.2.2.2.2.1
      have htk : τ.1 32 k = nI (tt k) := by rw [hF.1 _ _ (by omega)]; exact hT k (by omega)
      have hcn : τ.1 22 3 = nI q.length := by rw [hF.1 _ _ (by omega)]; exact hC.1
      have htl2 := htl k hkl
      have hky : R.2.2.2.2[k]? = some (R.2.2.2.2.getD k (0, 0, 0, 0)) := by rw [List.getD, List.getElem?_eq_getElem hkl]; rfl
      have hco : τ.1 (r + 2) k = nI (kc R k) := by rw [hF.1 _ _ (by omega)]; exact (hR.2.2.2.2.2 k _ hky).2.1
      rcases Nat.lt_or_ge (tt k) q.length with hlt | hge
      · have hno : τ.1 25 (tt k) = nI (q.getD (tt k) en0).2.2.2 := by
          rw [hF.1 _ _ (by omega)]
          exact (hC.2.1 _ _ (by rw [List.getD, List.getElem?_eq_getElem hlt]; rfl)).2
        have hckk := hcc k hkl hlt
        have yes : (∀ k', k' < k → tt k' < q.length → cC R q tt k ≤ cC R q tt k') → ∀ b y4, V mX2_cheapestKey (D + 1) 71 [some (.ref 30), some (.ref r), some (.int b), some (.int (nI k)), y4, some (.int (nI (cC R q tt k)))] [] τ Q := by
          intro hmin b y4
          have hnx := ih (k + 1) (setI τ 30 4 (nI (cC R q tt k))) (nI k) y4 (some (.int (nI (cC R q tt k)))) (by omega) ⟨fun a b h => by rw [setI_ne h]; exact hF.1 a b h, hF.2⟩ (Or.inr ⟨k, rfl, by omega, hlt, fun k' hk' ht' => by
            rcases Nat.lt_or_ge k' k with h5 | h5
            · exact hmin k' h5 ht'
            · have e : k' = k := by omega
              rw [e]; exact Nat.le_refl _, setI_same⟩)
          refine v_iload_n dX2_cheapestKey_71 rfl ?_
          refine v_istore_n dX2_cheapestKey_72 (Nat.le_of_ble_eq_true rfl) rfl ?_
          refine v_aload_n dX2_cheapestKey_73 rfl ?_
          refine v_iload dX2_cheapestKey_74 rfl ?_
          refine v_putI dX2_cheapestKey_76 fp_RX2_22 rfl ?_
          refine v_iinc dX2_cheapestKey_79 rfl (Nat.le_of_ble_eq_true rfl) rfl ?_
          refine v_goto dX2_cheapestKey_82 ?_
          rw [nI_1]
          exact hnx
        rcases hb with ⟨rfl, hb⟩ | ⟨b', rfl, q1, q2, q3, q4⟩
        · show V _ _ _ _ _ _ _
          refine v_iload_n dX2_cheapestKey_4 rfl ?_
          refine v_aload_n dX2_cheapestKey_5 rfl ?_
          refine v_getI dX2_cheapestKey_6 fl_RX2_73 hr.lay ?_
          rw [h4]
          refine v_icmp_ge dX2_cheapestKey_9 (fun zc9 => ?_) (fun zc9 => ?_)
          · exact absurd zc9 (nI_ge (by omega) (by omega))
          · refine v_aload_n dX2_cheapestKey_12 rfl ?_
            refine v_getR (q := 32) dX2_cheapestKey_13 fl_RX2_15 rfl rfl ?_
            refine v_iload_n dX2_cheapestKey_16 rfl ?_
            refine v_callS2 dX2_cheapestKey_17 ms_RX2_61 (Nat.le_of_ble_eq_true rfl) ?_
            refine ok_at rfl (by decide) ?_
            rw [vAt_nI (by omega) (by omega), htk]
            show V _ _ _ _ (_ :: _) _ _
            refine v_istore dX2_cheapestKey_20 (Nat.le_of_ble_eq_true rfl) rfl ?_
            refine v_iload dX2_cheapestKey_22 rfl ?_
            refine v_aload_n dX2_cheapestKey_24 rfl ?_
            refine v_getR (q := 22) dX2_cheapestKey_25 fl_RX2_29 rfl rfl ?_
            refine v_getI dX2_cheapestKey_28 fl_RX2_76 rfl ?_
            rw [hcn]
            refine v_icmp_ge dX2_cheapestKey_31 (fun zc31 => ?_) (fun zc31 => ?_)
            · exact absurd zc31 (nI_ge (by omega) (by omega))
            · refine v_aload_n dX2_cheapestKey_34 rfl ?_
              refine v_getR (q := 22) dX2_cheapestKey_35 fl_RX2_29 rfl rfl ?_
              refine v_getR (q := 25) dX2_cheapestKey_38 fl_RX2_79 rfl rfl ?_
              refine v_iload dX2_cheapestKey_41 rfl ?_
              refine v_callS2 dX2_cheapestKey_43 ms_RX2_61 (Nat.le_of_ble_eq_true rfl) ?_
              refine ok_at rfl (by decide) ?_
              rw [vAt_nI (by omega) (by omega), hno]
              show V _ _ _ _ (_ :: _) _ _
              refine v_aload_n dX2_cheapestKey_46 rfl ?_
              refine v_getR dX2_cheapestKey_47 fl_RX2_82 hr.lay hr.q6 ?_
              refine v_iload_n dX2_cheapestKey_50 rfl ?_
              refine v_callS2 dX2_cheapestKey_51 ms_RX2_61 (Nat.le_of_ble_eq_true rfl) ?_
              refine ok_at hr.l2 (by decide) ?_
              rw [vAt_nI (by omega) (by omega), hco]
              show V _ _ _ _ (_ :: _) _ _
              refine v_iadd dX2_cheapestKey_54 ?_
              rw [nI_add]
              refine v_istore dX2_cheapestKey_55 (Nat.le_of_ble_eq_true rfl) rfl ?_
              refine v_iload_n dX2_cheapestKey_57 rfl ?_
              refine v_iconst dX2_cheapestKey_58 ?_
              refine v_icmp_eq dX2_cheapestKey_59 (fun zc59 => ?_) (fun zc59 => ?_)
              · exact yes (fun k' hk' ht' => by have := hb k' hk'; omega) _ _
              · exact absurd rfl zc59
        · have hcb := hcc b' (by omega) q2
          refine v_iload_n dX2_cheapestKey_4 rfl ?_
          refine v_aload_n dX2_cheapestKey_5 rfl ?_
          refine v_getI dX2_cheapestKey_6 fl_RX2_73 hr.lay ?_
          rw [h4]
          refine v_icmp_ge dX2_cheapestKey_9 (fun zc9 => ?_) (fun zc9 => ?_)
          · exact absurd zc9 (nI_ge (by omega) (by omega))
          · refine v_aload_n dX2_cheapestKey_12 rfl ?_
            refine v_getR (q := 32) dX2_cheapestKey_13 fl_RX2_15 rfl rfl ?_
            refine v_iload_n dX2_cheapestKey_16 rfl ?_
            refine v_callS2 dX2_cheapestKey_17 ms_RX2_61 (Nat.le_of_ble_eq_true rfl) ?_
            refine ok_at rfl (by decide) ?_
            rw [vAt_nI (by omega) (by omega), htk]
            show V _ _ _ _ (_ :: _) _ _
            refine v_istore dX2_cheapestKey_20 (Nat.le_of_ble_eq_true rfl) rfl ?_
            refine v_iload dX2_cheapestKey_22 rfl ?_
            refine v_aload_n dX2_cheapestKey_24 rfl ?_
            refine v_getR (q := 22) dX2_cheapestKey_25 fl_RX2_29 rfl rfl ?_
            refine v_getI dX2_cheapestKey_28 fl_RX2_76 rfl ?_
            rw [hcn]
            refine v_icmp_ge dX2_cheapestKey_31 (fun zc31 => ?_) (fun zc31 => ?_)
            · exact absurd zc31 (nI_ge (by omega) (by omega))
            · refine v_aload_n dX2_cheapestKey_34 rfl ?_
              refine v_getR (q := 22) dX2_cheapestKey_35 fl_RX2_29 rfl rfl ?_
              refine v_getR (q := 25) dX2_cheapestKey_38 fl_RX2_79 rfl rfl ?_
              refine v_iload dX2_cheapestKey_41 rfl ?_
              refine v_callS2 dX2_cheapestKey_43 ms_RX2_61 (Nat.le_of_ble_eq_true rfl) ?_
              refine ok_at rfl (by decide) ?_
              rw [vAt_nI (by omega) (by omega), hno]
              show V _ _ _ _ (_ :: _) _ _
              refine v_aload_n dX2_cheapestKey_46 rfl ?_
              refine v_getR dX2_cheapestKey_47 fl_RX2_82 hr.lay hr.q6 ?_
              refine v_iload_n dX2_cheapestKey_50 rfl ?_
              refine v_callS2 dX2_cheapestKey_51 ms_RX2_61 (Nat.le_of_ble_eq_true rfl) ?_
              refine ok_at hr.l2 (by decide) ?_
              rw [vAt_nI (by omega) (by omega), hco]
              show V _ _ _ _ (_ :: _) _ _
              refine v_iadd dX2_cheapestKey_54 ?_
              rw [nI_add, show (q.getD (tt k) en0).2.2.2 + kc R k = cC R q tt k from rfl]
              refine v_istore dX2_cheapestKey_55 (Nat.le_of_ble_eq_true rfl) rfl ?_
              refine v_iload_n dX2_cheapestKey_57 rfl ?_
              refine v_iconst dX2_cheapestKey_58 ?_
              refine v_icmp_eq dX2_cheapestKey_59 (fun zc59 => ?_) (fun zc59 => ?_)
              · exact absurd zc59 (nI_nm1 (by omega))
              · refine v_iload dX2_cheapestKey_62 rfl ?_
                refine v_aload_n dX2_cheapestKey_64 rfl ?_
                refine v_getI dX2_cheapestKey_65 fl_RX2_22 rfl ?_
                rw [q4]
                refine v_icmp_ge dX2_cheapestKey_68 (fun zc68 => ?_) (fun zc68 => ?_)
                · rw [nI_leI (by omega) (by omega)] at zc68
                  refine v_iinc dX2_cheapestKey_79 rfl (Nat.le_of_ble_eq_true rfl) rfl ?_
                  refine v_goto dX2_cheapestKey_82 ?_
                  rw [nI_1]
                  exact ih (k + 1) τ _ _ _ (by omega) hF (Or.inr ⟨b', rfl, by omega, q2, fun k' hk' ht' => by
                    rcases Nat.lt_or_ge k' k with h5 | h5
                    · exact q3 k' h5 ht'
                    · have e : k' = k := by omega
                      rw [e]; exact zc68, q4⟩)
                · rw [nI_leI (by omega) (by omega)] at zc68
                  exact yes (fun k' hk' ht' => by have := q3 k' hk' ht'; omega) _ _
      · have hte : tt k = q.length := by omega
        refine v_iload_n dX2_cheapestKey_4 rfl ?_
        refine v_aload_n dX2_cheapestKey_5 rfl ?_
        refine v_getI dX2_cheapestKey_6 fl_RX2_73 hr.lay ?_
        rw [h4]
        refine v_icmp_ge dX2_cheapestKey_9 (fun zc9 => ?_) (fun zc9 => ?_)
        · exact absurd zc9 (nI_ge (by omega) (by omega))
        · refine v_aload_n dX2_cheapestKey_12 rfl ?_
          refine v_getR (q := 32) dX2_cheapestKey_13 fl_RX2_15 rfl rfl ?_
          refine v_iload_n dX2_cheapestKey_16 rfl ?_
          refine v_callS2 dX2_cheapestKey_17 ms_RX2_61 (Nat.le_of_ble_eq_true rfl) ?_
          refine ok_at rfl (by decide) ?_
          rw [vAt_nI (by omega) (by omega), htk]
          show V _ _ _ _ (_ :: _) _ _
          refine v_istore dX2_cheapestKey_20 (Nat.le_of_ble_eq_true rfl) rfl ?_
          refine v_iload dX2_cheapestKey_22 rfl ?_
          refine v_aload_n dX2_cheapestKey_24 rfl ?_
          refine v_getR (q := 22) dX2_cheapestKey_25 fl_RX2_29 rfl rfl ?_
          refine v_getI dX2_cheapestKey_28 fl_RX2_76 rfl ?_
          rw [hcn]
          refine v_icmp_ge dX2_cheapestKey_31 (fun zc31 => ?_) (fun zc31 => ?_)
          · refine v_iinc dX2_cheapestKey_79 rfl (Nat.le_of_ble_eq_true rfl) rfl ?_
            refine v_goto dX2_cheapestKey_82 ?_
            rw [nI_1]
            refine ih (k + 1) τ _ _ _ (by omega) hF ?_
            rcases hb with ⟨rfl, hb⟩ | ⟨b', rfl, q1, q2, q3, q4⟩
            · refine Or.inl ⟨rfl, fun k' hk' => ?_⟩
              rcases Nat.lt_or_ge k' k with h5 | h5
              · exact hb k' h5
              · have e : k' = k := by omega
                rw [e]; exact hte
            · refine Or.inr ⟨b', rfl, by omega, q2, fun k' hk' ht' => ?_, q4⟩
              rcases Nat.lt_or_ge k' k with h5 | h5
              · exact q3 k' h5 ht'
              · have e : k' = k := by omega
                rw [e] at ht'; omega
          · exact absurd (nI_le (by omega) (by omega)) zc31
  refine ok_enter rfl (Nat.le_of_ble_eq_true rfl) ?_
  refine v_iconst dX2_cheapestKey_0 ?_
  refine v_istore_n dX2_cheapestKey_1 (Nat.le_of_ble_eq_true rfl) rfl ?_
  refine v_iconst dX2_cheapestKey_2 ?_
  refine v_istore_n dX2_cheapestKey_3 (Nat.le_of_ble_eq_true rfl) rfl ?_
  exact loop R.2.2.2.2.length 0 σ (-1) _ _ (by omega) ⟨fun _ _ _ => rfl, rfl⟩ (Or.inl ⟨rfl, fun k' hk' => absurd hk' (by omega)⟩)
end CL
