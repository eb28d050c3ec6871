/-! ===== the reference's search in breadth ===== -/
/-- entries ahead, strokes bounded by the place -/
def bfW (n : Nat) (q : List En) : Prop := ∀ (j : Nat) (e : En), q[j]? = some e → e.2.2.2 ≤ j ∧ (0 < j → e.2.1 < j ∧ e.2.2.1 < n)
def LQ (τ : Wd) (m : Nat) (q : List En) : Prop := (∀ (j : Nat) (e : En), q[j]? = some e → τ.1 54 j = nI (mc m e.1) ∧ τ.1 53 (mc m e.1) = nI e.2.2.2 ∧ (0 < j → τ.1 55 (mc m e.1) = nI (80000 * e.2.2.1 + mc m (q.getD e.2.1 en0).1))) ∧ ∀ c, c < 8 * m * m → (∀ e ∈ q, mc m e.1 ≠ c) → τ.1 53 c = -1
def LW (τ : Wd) (m : Nat) (l : List En) : Prop := ∀ v, v < 100 → (∀ e, bfF v l = some e → τ.1 57 v = nI e.2.2.2 ∧ τ.1 58 v = nI (mc m e.1)) ∧ (bfF v l = none → τ.1 57 v = -1)
def LFr (σ τ : Wd) : Prop := (∀ a b, ¬ (a = 53 ∨ a = 54 ∨ a = 55 ∨ a = 57 ∨ a = 58 ∨ (a = 44 ∧ 21 ≤ b ∧ b ≤ 24)) → τ.1 a b = σ.1 a b) ∧ τ.2 = σ.2
section MB
variable {D : Nat} {σ τ τ' : Wd} {Q : Option Value → Wd → Prop} {R : Rk} {s : St} {q : List En} {i k n m : Nat}
theorem mc_inj {s t : St} (hm : 0 < m) (hs : wS m s) (ht : wS m t) (h : mc m s = mc m t) : s = t := by
  rw [← mdec_mc hm hs, ← mdec_mc hm ht, h]
theorem bfW_K (h : bfW R.2.2.2.2.length q) (hi : i < q.length) (hk : k < R.2.2.2.2.length) : bfW R.2.2.2.2.length (bfK R q i k) := by
  rcases bfK_cases (R := R) (q := q) (i := i) (k := k) with ⟨e, -⟩ | ⟨e, -⟩
  · rw [e]; exact h
  · rw [e]
    intro j x hj
    by_cases hlt : j < q.length
    · rw [List.getElem?_append_left hlt] at hj
      exact h j x hj
    · rw [List.getElem?_append_right (by omega)] at hj
      have hz : j - q.length = 0 := by
        rcases Nat.eq_zero_or_pos (j - q.length) with h | h
        · exact h
        · rw [List.getElem?_eq_none (by simp; omega)] at hj; cases hj
      rw [hz] at hj
      have e1 : (nx R (q.getD i en0).1 k, i, k, (q.getD i en0).2.2.2 + 1) = x := by simpa using hj
      subst e1
      have h3 := h i (q.getD i en0) (by rw [List.getD, List.getElem?_eq_getElem hi]; rfl)
      exact ⟨by show (q.getD i en0).2.2.2 + 1 ≤ j; omega, fun _ => ⟨by show i < j; omega, hk⟩⟩
theorem bfW_Row (h : bfW R.2.2.2.2.length q) (hi : i < q.length) : ∀ k, k ≤ R.2.2.2.2.length → bfW R.2.2.2.2.length (bfRow R q i k)
  | 0, _ => h
  | k + 1, hk => bfW_K (bfW_Row h hi k (by omega)) (Nat.lt_of_lt_of_le hi (bfRow_pre k).length_le) (by omega)
theorem LQ.kept (h : LQ τ m q) (h1 : ∀ a b, a = 53 ∨ a = 54 ∨ a = 55 → τ'.1 a b = τ.1 a b) : LQ τ' m q := by
  refine ⟨fun j e hj => ?_, fun c hc hn => ?_⟩
  · rw [h1 _ _ (by omega), h1 _ _ (by omega), h1 _ _ (by omega)]
    exact h.1 j e hj
  · rw [h1 _ _ (by omega)]
    exact h.2 c hc hn
theorem LW.kept (h : LW τ m q) (h1 : ∀ a b, a = 57 ∨ a = 58 → τ'.1 a b = τ.1 a b) : LW τ' m q := by
  intro v hv
  rw [h1 _ _ (by omega), h1 _ _ (by omega)]
  exact h v hv
theorem LQ.add {t : St} {p kk d : Nat} (hm : 0 < m) (h : LQ τ m q) (hV : bfV m q) (hW : bfW n q) (ht : vS m t) (hne : ∀ e ∈ q, e.1 ≠ t) (hp : p < q.length) (h0 : 0 < q.length)
    (a1 : τ'.1 54 q.length = nI (mc m t)) (a2 : ∀ b, b ≠ q.length → τ'.1 54 b = τ.1 54 b) (b1 : τ'.1 53 (mc m t) = nI d) (b2 : ∀ b, b ≠ mc m t → τ'.1 53 b = τ.1 53 b) (c1 : τ'.1 55 (mc m t) = nI (80000 * kk + mc m (q.getD p en0).1)) (c2 : ∀ b, b ≠ mc m t → τ'.1 55 b = τ.1 55 b) : LQ τ' m (q ++ [(t, p, kk, d)]) := by
  refine ⟨fun j e hj => ?_, fun c hc hn => ?_⟩
  · by_cases hlt : j < q.length
    · rw [List.getElem?_append_left hlt] at hj
      have hmem := List.mem_of_getElem? hj
      have hx : mc m e.1 ≠ mc m t := fun he => hne e hmem (mc_inj hm (hV.2 e hmem).w ht.w he)
      obtain ⟨g1, g2, g3⟩ := h.1 j e hj
      refine ⟨by rw [a2 _ (by omega)]; exact g1, by rw [b2 _ hx]; exact g2, fun h4 => ?_⟩
      have hpl := ((hW j e hj).2 h4).1
      rw [c2 _ hx, g3 h4, List.getD, List.getD, List.getElem?_append_left (by omega)]
    · rw [List.getElem?_append_right (by omega)] at hj
      have hz : j - q.length = 0 := by
        rcases Nat.eq_zero_or_pos (j - q.length) with h | h
        · exact h
        · rw [List.getElem?_eq_none (by simp; omega)] at hj; cases hj
      rw [hz] at hj
      have e1 : (t, p, kk, d) = e := by simpa using hj
      have e2 : j = q.length := by omega
      subst e1; subst e2
      refine ⟨a1, b1, fun _ => ?_⟩
      show τ'.1 55 (mc m t) = nI (80000 * kk + mc m ((q ++ [(t, p, kk, d)]).getD p en0).1)
      rw [c1, List.getD, List.getD, List.getElem?_append_left hp]
  · have hn1 : mc m t ≠ c := hn (t, p, kk, d) (List.mem_append_right _ List.mem_cons_self)
    rw [b2 _ (fun e => hn1 e.symm)]
    exact h.2 c hc (fun e he => hn e (List.mem_append_left _ he))
theorem LW.add {e : En} {i : Nat} (h : LW τ m q) (hv : e.1.1 < 100) (ho : ∀ b, b ≠ e.1.1 → τ'.1 57 b = τ.1 57 b ∧ τ'.1 58 b = τ.1 58 b) (hs : (∃ x, bfF e.1.1 q = some x) → τ'.1 57 e.1.1 = τ.1 57 e.1.1 ∧ τ'.1 58 e.1.1 = τ.1 58 e.1.1) (hn : bfF e.1.1 q = none → τ'.1 57 e.1.1 = nI e.2.2.2 ∧ τ'.1 58 e.1.1 = nI (mc m e.1)) : LW τ' m (q ++ [e]) := by
  intro v hv2
  have hap : bfF v (q ++ [e]) = (bfF v q).or (bfF v [e]) := bfF_app
  have h1 : bfF v [e] = if e.1.1 = v then some e else none := by
    unfold bfF
    rw [List.find?_cons]
    by_cases h : e.1.1 = v <;> simp [h]
  by_cases hve : v = e.1.1
  · subst hve
    rw [if_pos rfl] at h1
    cases hb : bfF e.1.1 q with
    | some x =>
      rw [hap, hb]
      obtain ⟨g1, g2⟩ := hs ⟨x, hb⟩
      rw [g1, g2]
      have g3 := (h _ hv).1 x hb
      refine ⟨fun y hy => ?_, fun hy => by cases hy⟩
      have : x = y := by simpa using hy
      rw [← this]; exact g3
    | none =>
      rw [hap, hb, h1]
      obtain ⟨g1, g2⟩ := hn hb
      refine ⟨fun y hy => ?_, fun hy => by cases hy⟩
      have : e = y := by simpa using hy
      rw [← this]; exact ⟨g1, g2⟩
  · rw [if_neg (fun h => hve h.symm)] at h1
    obtain ⟨g1, g2⟩ := ho v hve
    rw [hap, h1, Option.or_none, g1, g2]
    exact h v hv2
theorem LFr.set {a b : Nat} {x : Int32} (h : LFr σ τ) (ha : a = 53 ∨ a = 54 ∨ a = 55 ∨ a = 57 ∨ a = 58) : LFr σ (setI τ a b x) := ⟨fun u v hh => by rw [setI_ne (by omega)]; exact h.1 u v hh, h.2⟩
theorem LFr.putS {t : St} (h : LFr σ τ) : LFr σ (putS τ t) := ⟨fun u v hh => by rw [putS_o (by omega)]; exact h.1 u v hh, h.2⟩
theorem fillI_o {k n a b : Nat} {x : Int32} (h : a ≠ k) : (fillI σ k n x).1 a b = σ.1 a b := by
  unfold fillI
  dsimp only
  rw [if_neg (fun e => h e.1)]
theorem fillI_i {k n b : Nat} {x : Int32} (h : b < n) : (fillI σ k n x).1 k b = x := by
  unfold fillI
  dsimp only
  rw [if_pos ⟨rfl, h⟩]
/-- what the search leaves -/
def LFin (σ τ : Wd) (R : Rk) (s : St) : Prop := (∀ a b, ¬ (a = 53 ∨ a = 54 ∨ a = 55 ∨ a = 57 ∨ a = 58) → τ.1 a b = σ.1 a b) ∧ τ.2 = σ.2 ∧ LQ τ R.2.2.2.1 (bfAll R s) ∧ LW τ R.2.2.2.1 (bfAll R s)
set_option maxHeartbeats 4000000 in
theorem ok_layFewest (hM : RepM σ R) (hv : vR 9 R) (hm : 0 < R.2.2.2.1) (hS : RepS σ s) (hs : vS R.2.2.2.1 s) (hQ : ∀ τ, LFin σ τ R s → Q none τ) : Ok (D + 4) mX12_layFewest [.ref 44, .int (nI R.2.2.2.2.length)] σ Q := by
  have hvv : R.2.2.2.1 ≤ 100 ∧ R.2.2.2.2.length ≤ 9 := by
    rcases hv with e | ⟨v1, v2, v3, v4, v5, v6, v7, v8, v9⟩
    · subst e; exact absurd hm (by decide)
    · exact ⟨v7, v8⟩
  obtain ⟨hm2, hnk⟩ := hvv
  have h8 := mm_le hm2
  have h3 := hM.2.2.2.1
  have hnow : mc R.2.2.2.1 s < 8 * R.2.2.2.1 * R.2.2.2.1 := mc_lt hm hs.w
  have hpl := nPl_le hm2
  -- the inner loop
  have inner : ∀ j k τ (q : List En) (i : Nat) (x6 : Int32) (x8 : Option Value), k + j = R.2.2.2.2.length → i < q.length → bfV R.2.2.2.1 q → bfW R.2.2.2.2.length q → LFr σ τ → LQ τ R.2.2.2.1 (bfRow R q i k) → LW τ R.2.2.2.1 (q.take (i + 1)) →
      (∀ τ' x8', LFr σ τ' → LQ τ' R.2.2.2.1 (bfRow R q i R.2.2.2.2.length) → LW τ' R.2.2.2.1 (q.take (i + 1)) → V mX12_layFewest (D + 4) 218 [some (.ref 44), some (.int (nI R.2.2.2.2.length)), some (.int (nI (mc R.2.2.2.1 s))), some (.int (nI (bfRow R q i R.2.2.2.2.length).length)), some (.int (nI i)), some (.int (nI (mc R.2.2.2.1 (q.getD i en0).1))), some (.int x6), some (.int (nI R.2.2.2.2.length)), x8'] [] τ' Q) →
      V mX12_layFewest (D + 4) 143 [some (.ref 44), some (.int (nI R.2.2.2.2.length)), some (.int (nI (mc R.2.2.2.1 s))), some (.int (nI (bfRow R q i k).length)), some (.int (nI i)), some (.int (nI (mc R.2.2.2.1 (q.getD i en0).1))), some (.int x6), some (.int (nI k)), x8] [] τ Q := by
    intro j
    induction j with
    | zero =>
      intro k τ q i x6 x8 hk hi hV hW hF hLQ hLW hnext
      have e : k = R.2.2.2.2.length := by omega
      subst e
      refine v_iload dX12_layFewest_143 rfl ?_
      refine v_iload_n dX12_layFewest_145 rfl ?_
      refine v_icmp_ge dX12_layFewest_146 (fun zc146 => ?_) (fun zc146 => ?_)
      · exact hnext τ x8 hF hLQ hLW
      · exact absurd (nI_le (Nat.le_refl _) (by omega)) zc146
    | succ j ih =>
      intro k τ q i x6 x8 hk hi hV hW hF hLQ hLW hnext
      have hkl : k < R.2.2.2.2.length := by omega
      have hRV := bfRow_V hv hi hV k (by omega)
      have hRW := bfW_Row hW hi k (by omega)
      have hil : i < (bfRow R q i k).length := Nat.lt_of_lt_of_le hi (bfRow_pre k).length_le
      have hgd : (bfRow R q i k).getD i en0 = q.getD i en0 := pre_getD (bfRow_pre k) hi
      have hrl : (bfRow R q i k).length ≤ 60200 := Nat.le_trans (bfV.len hm hRV) hpl
      have hvi : vS R.2.2.2.1 (q.getD i en0).1 := hV.2 _ (getD_mem hi)
      have hti : vS R.2.2.2.1 (nx R (q.getD i en0).1 k) := nx_v hv hkl hvi
      have hci := mc_lt hm hvi.w
      have hct := mc_lt hm hti.w
      have hdec : mdec R.2.2.2.1 (mc R.2.2.2.1 (q.getD i en0).1) = (q.getD i en0).1 := mdec_mc hm hvi.w
      have hky : R.2.2.2.2[k]? = some (R.2.2.2.2.getD k (0, 0, 0, 0)) := by rw [List.getD, List.getElem?_eq_getElem hkl]; rfl
      have hMt : RepM τ R := hM.kept (fun b hb => hF.1 _ _ (by omega)) (fun b => hF.1 _ _ (by omega))
      have hent : (bfRow R q i k)[i]? = some (q.getD i en0) := by
        rw [← hgd, List.getD, List.getElem?_eq_getElem hil]; rfl
      have hfi : τ.1 53 (mc R.2.2.2.1 (q.getD i en0).1) = nI (q.getD i en0).2.2.2 := (hLQ.1 i _ hent).2.1
      have hstep : bfRow R q i (k + 1) = bfK R (bfRow R q i k) i k := rfl
      have hdi := (hRW i _ hent).1
      have hfar : τ.1 53 (mc R.2.2.2.1 (nx R (q.getD i en0).1 k)) = -1 ↔ ∀ e ∈ bfRow R q i k, e.1 ≠ nx R (q.getD i en0).1 k := by
        constructor
        · intro h1 e he h2
          obtain ⟨j2, hj2⟩ := List.getElem?_of_mem he
          have h4 := (hLQ.1 j2 e hj2).2.1
          have h5 := (hRW j2 e hj2).1
          have h6 := (List.getElem?_eq_some_iff.mp hj2).1
          rw [h2, h1, iz_nI, show (-1 : Int32) = iz (-1) from rfl, iz_eq (by omega) (by omega) (by omega) (by omega)] at h4
          omega
        · intro h1
          exact hLQ.2 _ hct (fun e he h2 => h1 e he (mc_inj hm (hRV.2 e he).w hti.w h2))
      refine v_iload dX12_layFewest_143 rfl ?_
      refine v_iload_n dX12_layFewest_145 rfl ?_
      refine v_icmp_ge dX12_layFewest_146 (fun zc146 => ?_) (fun zc146 => ?_)
      · exact absurd zc146 (nI_ge (by omega) (by omega))
      · refine v_aload_n dX12_layFewest_149 rfl ?_
        refine v_iload dX12_layFewest_150 rfl ?_
        refine v_iload dX12_layFewest_152 rfl ?_
        refine v_callV2 dX12_layFewest_154 mv_RX12_239 rfl rfl (Nat.le_of_ble_eq_true rfl) ?_
        refine ok_behind hMt (Nat.le_refl 9) hv hky hci ?_
        rw [hdec]
        rw [show rk_str R (q.getD i en0).1 (R.2.2.2.2.getD k (0, 0, 0, 0)) = nx R (q.getD i en0).1 k from rfl]
        show V _ _ _ _ (_ :: _) _ _
        refine v_istore dX12_layFewest_157 (Nat.le_of_ble_eq_true rfl) rfl ?_
        refine v_aload_n dX12_layFewest_159 rfl ?_
        refine v_getR (q := 53) dX12_layFewest_160 fl_RX12_44 rfl rfl ?_
        refine v_iload dX12_layFewest_163 rfl ?_
        refine v_iaload dX12_layFewest_165 rfl (by exact vp_in_nI (by omega) (by omega)) ?_
        rw [nI_clamp (by omega), putS_o (by omega)]
        refine v_iconst dX12_layFewest_166 ?_
        refine v_icmp_ne dX12_layFewest_167 (fun zc167 => ?_) (fun zc167 => ?_)
        · have hnn : ¬ ∀ e ∈ bfRow R q i k, e.1 ≠ nx R (q.getD i en0).1 k := fun h => zc167 (hfar.mpr h)
          have hsame : bfRow R q i (k + 1) = bfRow R q i k := by
            rw [hstep]
            rcases bfK_cases (R := R) (q := bfRow R q i k) (i := i) (k := k) with ⟨e, -⟩ | ⟨-, hne⟩
            · exact e
            · rw [hgd] at hne; exact absurd hne hnn
          have hnx := ih (k + 1) (putS τ (nx R (q.getD i en0).1 k)) q i x6 (some (.int (nI (mc R.2.2.2.1 (nx R (q.getD i en0).1 k))))) (by omega) hi hV hW hF.putS (by rw [hsame]; exact hLQ.kept (fun a b h => putS_o (by omega))) (hLW.kept (fun a b h => putS_o (by omega))) hnext
          rw [hsame] at hnx
          refine v_iinc dX12_layFewest_212 rfl (Nat.le_of_ble_eq_true rfl) rfl ?_
          refine v_goto dX12_layFewest_215 ?_
          first | (rw [nI_1, nI_1]; exact hnx) | (rw [nI_1]; exact hnx)
        · have hnn := hfar.mp zc167
          have hsame : bfRow R q i (k + 1) = bfRow R q i k ++ [(nx R (q.getD i en0).1 k, i, k, (q.getD i en0).2.2.2 + 1)] := by
            rw [hstep]
            rcases bfK_cases (R := R) (q := bfRow R q i k) (i := i) (k := k) with ⟨-, e2, he2, he3⟩ | ⟨e, -⟩
            · rw [hgd] at he3; exact absurd he3 (hnn e2 he2)
            · rw [e, hgd]
          have hlen : (bfRow R q i (k + 1)).length = (bfRow R q i k).length + 1 := by rw [hsame]; simp
          have hnx := ih (k + 1) (setI (setI (setI (putS τ (nx R (q.getD i en0).1 k)) 53 (mc R.2.2.2.1 (nx R (q.getD i en0).1 k)) (nI ((q.getD i en0).2.2.2 + 1))) 55 (mc R.2.2.2.1 (nx R (q.getD i en0).1 k)) (nI (80000 * k + mc R.2.2.2.1 (q.getD i en0).1))) 54 (bfRow R q i k).length (nI (mc R.2.2.2.1 (nx R (q.getD i en0).1 k)))) q i x6 (some (.int (nI (mc R.2.2.2.1 (nx R (q.getD i en0).1 k))))) (by omega) hi hV hW (((hF.putS.set (by omega)).set (by omega)).set (by omega)) (by
            rw [hsame]
            refine LQ.add hm hLQ hRV hRW hti hnn hil (by omega) ?_ ?_ ?_ ?_ ?_ ?_
            · rw [setI_same]
            · intro b hb; rw [setI_ne (by omega), setI_ne (by omega), setI_ne (by omega), putS_o (by omega)]
            · rw [setI_ne (by omega), setI_ne (by omega), setI_same]
            · intro b hb; rw [setI_ne (by omega), setI_ne (by omega), setI_ne (by omega), putS_o (by omega)]
            · rw [setI_ne (by omega), setI_same, hgd]
            · intro b hb; rw [setI_ne (by omega), setI_ne (by omega), setI_ne (by omega), putS_o (by omega)]) (hLW.kept (fun a b h => by rw [setI_ne (by omega), setI_ne (by omega), setI_ne (by omega), putS_o (by omega)])) hnext
          rw [hlen] at hnx
          refine v_aload_n dX12_layFewest_170 rfl ?_
          refine v_getR (q := 53) dX12_layFewest_171 fl_RX12_44 rfl rfl ?_
          refine v_iload dX12_layFewest_174 rfl ?_
          refine v_aload_n dX12_layFewest_176 rfl ?_
          refine v_getR (q := 53) dX12_layFewest_177 fl_RX12_44 rfl rfl ?_
          refine v_iload dX12_layFewest_180 rfl ?_
          refine v_iaload dX12_layFewest_182 rfl (by exact vp_in_nI (by omega) (by omega)) ?_
          rw [nI_clamp (by omega), putS_o (by omega), hfi]
          refine v_iconst dX12_layFewest_183 ?_
          refine v_iadd dX12_layFewest_184 ?_
          rw [nI_1]
          refine v_iastore dX12_layFewest_185 rfl (by exact vp_in_nI (by omega) (by omega)) ?_
          rw [nI_clamp (by omega)]
          refine v_aload_n dX12_layFewest_186 rfl ?_
          refine v_getR (q := 55) dX12_layFewest_187 fl_RX12_50 rfl rfl ?_
          refine v_iload dX12_layFewest_190 rfl ?_
          refine v_ldc dX12_layFewest_192 cn_RX12_43 ?_
          refine v_iload dX12_layFewest_194 rfl ?_
          refine v_imul dX12_layFewest_196 ?_
          refine v_iload dX12_layFewest_197 rfl ?_
          refine v_iadd dX12_layFewest_199 ?_
          rw [show (80000 : Int32) = nI 80000 from rfl, pk_mul, nI_add]
          refine v_iastore dX12_layFewest_200 rfl (by exact vp_in_nI (by omega) (by omega)) ?_
          rw [nI_clamp (by omega)]
          refine v_aload_n dX12_layFewest_201 rfl ?_
          refine v_getR (q := 54) dX12_layFewest_202 fl_RX12_47 rfl rfl ?_
          refine v_iload_n dX12_layFewest_205 rfl ?_
          refine v_iload dX12_layFewest_206 rfl ?_
          refine v_iastore dX12_layFewest_208 rfl (by exact vp_in_nI (by omega) (by omega)) ?_
          rw [nI_clamp (by omega)]
          refine v_iinc dX12_layFewest_209 rfl (Nat.le_of_ble_eq_true rfl) rfl ?_
          refine v_iinc dX12_layFewest_212 rfl (Nat.le_of_ble_eq_true rfl) rfl ?_
          refine v_goto dX12_layFewest_215 ?_
          first | (rw [nI_1, nI_1]; exact hnx) | (rw [nI_1]; exact hnx)
  -- the outer loop
  have outer : ∀ f i τ (q : List En) (x5 x6 x7 x8 : Option Value), 60200 < f + i → i ≤ q.length → 0 < q.length → bfV R.2.2.2.1 q → bfW R.2.2.2.2.length q → bfRun R f i q = bfAll R s → LFr σ τ → LQ τ R.2.2.2.1 q → LW τ R.2.2.2.1 (q.take i) →
      V mX12_layFewest (D + 4) 83 [some (.ref 44), some (.int (nI R.2.2.2.2.length)), some (.int (nI (mc R.2.2.2.1 s))), some (.int (nI q.length)), some (.int (nI i)), x5, x6, x7, x8] [] τ Q := by
    intro f
    induction f with
    | zero =>
      intro i τ q x5 x6 x7 x8 hf hi h0 hV
      exact absurd (Nat.le_trans (bfV.len hm hV) hpl) (by omega)
    | succ f ih =>
      intro i τ q x5 x6 x7 x8 hf hi h0 hV hW hrun hF hLQ hLW
      have hql := Nat.le_trans (bfV.len hm hV) hpl
      have hMt : RepM τ R := hM.kept (fun b hb => hF.1 _ _ (by omega)) (fun b => hF.1 _ _ (by omega))
      by_cases hlt : i < q.length
      · have hvi : vS R.2.2.2.1 (q.getD i en0).1 := hV.2 _ (getD_mem hlt)
        have hci := mc_lt hm hvi.w
        have hent : q[i]? = some (q.getD i en0) := by rw [List.getD, List.getElem?_eq_getElem hlt]; rfl
        obtain ⟨l1, l2, l3⟩ := hLQ.1 i _ hent
        have hdi := (hW i _ hent).1
        have hdec : (mdec R.2.2.2.1 (mc R.2.2.2.1 (q.getD i en0).1)).1 = (q.getD i en0).1.1 := by rw [mdec_mc hm hvi.w]
        have hsh : (q.getD i en0).1.1 < 100 := by have := hvi.1; omega
        have htk : q.take (i + 1) = q.take i ++ [q.getD i en0] := by rw [List.take_add_one, hent]; rfl
        have hrun2 : bfRun R f (i + 1) (bfRow R q i R.2.2.2.2.length) = bfAll R s := by
          rw [← hrun]
          show _ = if i < q.length then _ else _
          rw [if_pos hlt]
        have hRV := bfRow_V hv hlt hV _ (Nat.le_refl _)
        have hRW := bfW_Row hW hlt _ (Nat.le_refl _)
        have hpre := bfRow_pre (R := R) (q := q) (i := i) R.2.2.2.2.length
        have htk2 : (bfRow R q i R.2.2.2.2.length).take (i + 1) = q.take (i + 1) := by
          obtain ⟨t, ht⟩ := hpre
          rw [← ht, List.take_append_of_le_length (by omega)]
        have next : ∀ τ' x6 x8', LFr σ τ' → LQ τ' R.2.2.2.1 (bfRow R q i R.2.2.2.2.length) → LW τ' R.2.2.2.1 (q.take (i + 1)) → V mX12_layFewest (D + 4) 218 [some (.ref 44), some (.int (nI R.2.2.2.2.length)), some (.int (nI (mc R.2.2.2.1 s))), some (.int (nI (bfRow R q i R.2.2.2.2.length).length)), some (.int (nI i)), some (.int (nI (mc R.2.2.2.1 (q.getD i en0).1))), some (.int x6), some (.int (nI R.2.2.2.2.length)), x8'] [] τ' Q := by
          intro τ' x6 x8' g1 g2 g3
          have hpl2 := hpre.length_le
          have hnx := fun y5 y6 y7 y8 => ih (i + 1) τ' (bfRow R q i R.2.2.2.2.length) y5 y6 y7 y8 (by omega) (by omega) (by omega) hRV hRW hrun2 g1 g2 (by rw [htk2]; exact g3)
          refine v_iinc dX12_layFewest_218 rfl (Nat.le_of_ble_eq_true rfl) rfl ?_
          refine v_goto dX12_layFewest_221 ?_
          rw [nI_1]
          exact hnx _ _ _ _
        refine v_iload dX12_layFewest_83 rfl ?_
        refine v_iload_n dX12_layFewest_85 rfl ?_
        refine v_icmp_ge dX12_layFewest_86 (fun zc86 => ?_) (fun zc86 => ?_)
        · exact absurd zc86 (nI_ge hlt (by omega))
        · refine v_aload_n dX12_layFewest_89 rfl ?_
          refine v_getR (q := 54) dX12_layFewest_90 fl_RX12_47 rfl rfl ?_
          refine v_iload dX12_layFewest_93 rfl ?_
          refine v_iaload dX12_layFewest_95 rfl (by exact vp_in_nI (by omega) (by omega)) ?_
          rw [nI_clamp (by omega), l1]
          refine v_istore dX12_layFewest_96 (Nat.le_of_ble_eq_true rfl) rfl ?_
          refine v_aload_n dX12_layFewest_98 rfl ?_
          refine v_iload dX12_layFewest_99 rfl ?_
          refine v_callV1 dX12_layFewest_101 mv_RX12_236 rfl rfl (Nat.le_of_ble_eq_true rfl) ?_
          refine ok_mshownIn hMt.2.2.2.1 hm hm2 (by omega) ?_
          rw [hdec]
          show V _ _ _ _ (_ :: _) _ _
          refine v_istore dX12_layFewest_104 (Nat.le_of_ble_eq_true rfl) rfl ?_
          refine v_aload_n dX12_layFewest_106 rfl ?_
          refine v_getR (q := 57) dX12_layFewest_107 fl_RX12_56 rfl rfl ?_
          refine v_iload dX12_layFewest_110 rfl ?_
          refine v_iaload dX12_layFewest_112 rfl (by exact vp_in_nI (by omega) (by omega)) ?_
          rw [nI_clamp (by omega)]
          refine v_iconst dX12_layFewest_113 ?_
          refine v_icmp_ne dX12_layFewest_114 (fun zc114 => ?_) (fun zc114 => ?_)
          · have hfnd : ∃ x, bfF (q.getD i en0).1.1 (q.take i) = some x := by
              cases hb : bfF (q.getD i en0).1.1 (q.take i) with
              | some x => exact ⟨x, rfl⟩
              | none => exact absurd ((hLW _ hsh).2 hb) zc114
            have hLW2 : LW τ R.2.2.2.1 (q.take (i + 1)) := by
              rw [htk]
              exact LW.add (i := i) hLW hsh (fun b _ => ⟨rfl, rfl⟩) (fun _ => ⟨rfl, rfl⟩) (fun hb => by obtain ⟨x, hx⟩ := hfnd; rw [hb] at hx; cases hx)
            have hin := fun y => inner R.2.2.2.2.length 0 τ q i (nI (q.getD i en0).1.1) y (by omega) hlt hV hW hF hLQ hLW2 (fun τ' x8' => next τ' _ x8')
            refine v_iconst dX12_layFewest_140 ?_
            refine v_istore dX12_layFewest_141 (Nat.le_of_ble_eq_true rfl) rfl ?_
            exact hin _
          · have hfnd : bfF (q.getD i en0).1.1 (q.take i) = none := by
              cases hb : bfF (q.getD i en0).1.1 (q.take i) with
              | none => rfl
              | some x =>
                have h1 := ((hLW _ hsh).1 x hb).1
                have h2 : x ∈ q := List.mem_of_mem_take (List.mem_of_find?_eq_some hb)
                obtain ⟨j2, hj2⟩ := List.getElem?_of_mem h2
                have h5 := (hW j2 x hj2).1
                have h6 := (List.getElem?_eq_some_iff.mp hj2).1
                rw [zc114, iz_nI, show (-1 : Int32) = iz (-1) from rfl, iz_eq (by omega) (by omega) (by omega) (by omega)] at h1
                omega
            have hLW2 : LW (setI (setI τ 57 (q.getD i en0).1.1 (nI (q.getD i en0).2.2.2)) 58 (q.getD i en0).1.1 (nI (mc R.2.2.2.1 (q.getD i en0).1))) R.2.2.2.1 (q.take (i + 1)) := by
              rw [htk]
              exact LW.add (i := i) hLW hsh (fun b hb => ⟨by rw [setI_ne (by omega), setI_ne (by omega)], by rw [setI_ne (by omega), setI_ne (by omega)]⟩) (fun hx => by obtain ⟨x, hx⟩ := hx; rw [hfnd] at hx; cases hx) (fun _ => ⟨by rw [setI_ne (by omega), setI_same], by rw [setI_same]⟩)
            have hin := fun y => inner R.2.2.2.2.length 0 _ q i (nI (q.getD i en0).1.1) y (by omega) hlt hV hW ((hF.set (a := 57) (by omega)).set (a := 58) (by omega)) (hLQ.kept (fun a b h => by rw [setI_ne (by omega), setI_ne (by omega)])) hLW2 (fun τ' x8' => next τ' _ x8')
            refine v_aload_n dX12_layFewest_117 rfl ?_
            refine v_getR (q := 57) dX12_layFewest_118 fl_RX12_56 rfl rfl ?_
            refine v_iload dX12_layFewest_121 rfl ?_
            refine v_aload_n dX12_layFewest_123 rfl ?_
            refine v_getR (q := 53) dX12_layFewest_124 fl_RX12_44 rfl rfl ?_
            refine v_iload dX12_layFewest_127 rfl ?_
            refine v_iaload dX12_layFewest_129 rfl (by exact vp_in_nI (by omega) (by omega)) ?_
            rw [nI_clamp (by omega), l2]
            refine v_iastore dX12_layFewest_130 rfl (by exact vp_in_nI (by omega) (by omega)) ?_
            rw [nI_clamp (by omega)]
            refine v_aload_n dX12_layFewest_131 rfl ?_
            refine v_getR (q := 58) dX12_layFewest_132 fl_RX12_59 rfl rfl ?_
            refine v_iload dX12_layFewest_135 rfl ?_
            refine v_iload dX12_layFewest_137 rfl ?_
            refine v_iastore dX12_layFewest_139 rfl (by exact vp_in_nI (by omega) (by omega)) ?_
            rw [nI_clamp (by omega)]
            refine v_iconst dX12_layFewest_140 ?_
            refine v_istore dX12_layFewest_141 (Nat.le_of_ble_eq_true rfl) rfl ?_
            exact hin _
      · have hiq : i = q.length := by omega
        have hend : q = bfAll R s := by
          rw [← hrun]
          show _ = if i < q.length then _ else _
          rw [if_neg hlt]
        have hfin : LFin σ (putS τ s) R s := by
          refine ⟨fun a b hab => ?_, hF.2, ?_, ?_⟩
          · by_cases h44 : a = 44 ∧ 21 ≤ b ∧ b ≤ 24
            · obtain ⟨rfl, q1, q2⟩ := h44
              obtain ⟨p1, p2, p3, p4⟩ := putS_rep (σ := τ) (s := s)
              obtain ⟨r1, r2, r3, r4⟩ := hS
              rcases (show b = 21 ∨ b = 22 ∨ b = 23 ∨ b = 24 by omega) with rfl | rfl | rfl | rfl
              · rw [p1, r1]
              · rw [p2, r2]
              · rw [p3, r3]
              · rw [p4, r4]
            · rw [putS_o h44]
              exact hF.1 a b (by omega)
          · rw [← hend]
            exact hLQ.kept (fun a b h => putS_o (by omega))
          · rw [← hend]
            rw [hiq, List.take_of_length_le (Nat.le_refl _)] at hLW
            exact hLW.kept (fun a b h => putS_o (by omega))
        refine v_iload dX12_layFewest_83 rfl ?_
        refine v_iload_n dX12_layFewest_85 rfl ?_
        refine v_icmp_ge dX12_layFewest_86 (fun zc86 => ?_) (fun zc86 => ?_)
        · refine v_aload_n dX12_layFewest_224 rfl ?_
          refine v_iload_n dX12_layFewest_225 rfl ?_
          refine v_callV1 dX12_layFewest_226 mv_RX12_223 rfl rfl (Nat.le_of_ble_eq_true rfl) ?_
          refine ok_setState hMt.2.2.2.1 hm hm2 (by omega) ?_
          rw [mdec_mc hm hs.w]
          show V _ _ _ _ _ _ _
          refine v_return dX12_layFewest_229 rfl ?_
          exact hQ _ hfin
        · exact absurd (nI_le (by omega) (by omega)) zc86
  -- the loops ahead
  have fill2 : ∀ j c, c + j = 8 * R.2.2.2.1 * R.2.2.2.1 → ∀ x4 x5 x6 x7 x8, V mX12_layFewest (D + 4) 36 [some (.ref 44), some (.int (nI R.2.2.2.2.length)), some (.int (nI (mc R.2.2.2.1 s))), some (.int (nI c)), x4, x5, x6, x7, x8] [] (fillI (fillI σ 57 100 (-1)) 53 c (-1)) Q := by
    intro j
    induction j with
    | zero =>
      intro c hc x4 x5 x6 x7 x8
      have e : c = 8 * R.2.2.2.1 * R.2.2.2.1 := by omega
      subst e
      have hV0 : bfV R.2.2.2.1 [((s, 0, 0, 0) : En)] := ⟨by simp, fun e he => by have : e = (s, 0, 0, 0) := (by simpa using he); rw [this]; exact hs⟩
      have hW0 : bfW R.2.2.2.2.length [((s, 0, 0, 0) : En)] := by
        intro j e hj
        match j, hj with
        | 0, hj => have : (s, 0, 0, 0) = e := by simpa using hj
                   subst this
                   exact ⟨Nat.le_refl _, fun h => absurd h (by omega)⟩
        | j + 1, hj => simp at hj
      have hres := fun τ y5 y6 y7 y8 (g1 : LFr σ τ) g2 g3 => outer 60300 0 τ [((s, 0, 0, 0) : En)] y5 y6 y7 y8 (by omega) (Nat.zero_le _) (by simp) hV0 hW0 rfl g1 g2 g3
      have hfr : LFr σ (setI (setI (setI (fillI (fillI σ 57 100 (-1)) 53 (8 * R.2.2.2.1 * R.2.2.2.1) (-1)) 54 0 (nI (mc R.2.2.2.1 s))) 53 (mc R.2.2.2.1 s) 0) 55 (mc R.2.2.2.1 s) (-1)) := by
        refine LFr.set (LFr.set (LFr.set ⟨fun a b h => ?_, rfl⟩ (by omega)) (by omega)) (by omega)
        rw [fillI_o (by omega), fillI_o (by omega)]
      have hlq : LQ (setI (setI (setI (fillI (fillI σ 57 100 (-1)) 53 (8 * R.2.2.2.1 * R.2.2.2.1) (-1)) 54 0 (nI (mc R.2.2.2.1 s))) 53 (mc R.2.2.2.1 s) 0) 55 (mc R.2.2.2.1 s) (-1)) R.2.2.2.1 [((s, 0, 0, 0) : En)] := by
        refine ⟨fun j e hj => ?_, fun c hc hn => ?_⟩
        · match j, hj with
          | 0, hj =>
            have : (s, 0, 0, 0) = e := by simpa using hj
            subst this
            refine ⟨?_, ?_, fun h => absurd h (by omega)⟩
            · rw [setI_ne (by omega), setI_ne (by omega), setI_same]
            · rw [setI_ne (by omega), setI_same]; rfl
          | j + 1, hj => simp at hj
        · have hne := hn (s, 0, 0, 0) List.mem_cons_self
          rw [setI_ne (by omega), setI_ne (fun h => hne h.2.symm), setI_ne (by omega)]
          rw [fillI_i hc]
      have hlw : LW (setI (setI (setI (fillI (fillI σ 57 100 (-1)) 53 (8 * R.2.2.2.1 * R.2.2.2.1) (-1)) 54 0 (nI (mc R.2.2.2.1 s))) 53 (mc R.2.2.2.1 s) 0) 55 (mc R.2.2.2.1 s) (-1)) R.2.2.2.1 (([((s, 0, 0, 0) : En)] : List En).take 0) := by
        intro v hv2
        refine ⟨fun e he => absurd he (by simp [bfF]), fun _ => ?_⟩
        rw [setI_ne (by omega), setI_ne (by omega), setI_ne (by omega)]
        rw [fillI_o (by omega), fillI_i hv2]
      refine v_iload_n dX12_layFewest_36 rfl ?_
      refine v_aload_n dX12_layFewest_37 rfl ?_
      refine v_callV0 dX12_layFewest_38 mv_RX12_233 rfl rfl (Nat.le_of_ble_eq_true rfl) ?_
      refine ok_states (m := R.2.2.2.1) ?_ ?_
      · rw [fillI_o (by omega), fillI_o (by omega)]; exact h3
      show V _ _ _ _ (_ :: _) _ _
      refine v_icmp_ge dX12_layFewest_41 (fun zc41 => ?_) (fun zc41 => ?_)
      · refine v_iconst dX12_layFewest_57 ?_
        refine v_istore_n dX12_layFewest_58 (Nat.le_of_ble_eq_true rfl) rfl ?_
        refine v_aload_n dX12_layFewest_59 rfl ?_
        refine v_getR (q := 54) dX12_layFewest_60 fl_RX12_47 rfl rfl ?_
        refine v_iconst dX12_layFewest_63 ?_
        refine v_iload_n dX12_layFewest_64 rfl ?_
        refine v_iastore dX12_layFewest_65 rfl (by exact vp_in_nI (n := 0) (by omega) (by omega)) ?_
        rw [show ((0 : Int32)).toNatClampNeg = 0 from rfl]
        refine v_aload_n dX12_layFewest_66 rfl ?_
        refine v_getR (q := 53) dX12_layFewest_67 fl_RX12_44 rfl rfl ?_
        refine v_iload_n dX12_layFewest_70 rfl ?_
        refine v_iconst dX12_layFewest_71 ?_
        refine v_iastore dX12_layFewest_72 rfl (by exact vp_in_nI (by omega) (by omega)) ?_
        rw [nI_clamp (by omega)]
        refine v_aload_n dX12_layFewest_73 rfl ?_
        refine v_getR (q := 55) dX12_layFewest_74 fl_RX12_50 rfl rfl ?_
        refine v_iload_n dX12_layFewest_77 rfl ?_
        refine v_iconst dX12_layFewest_78 ?_
        refine v_iastore dX12_layFewest_79 rfl (by exact vp_in_nI (by omega) (by omega)) ?_
        rw [nI_clamp (by omega)]
        refine v_iconst dX12_layFewest_80 ?_
        refine v_istore dX12_layFewest_81 (Nat.le_of_ble_eq_true rfl) rfl ?_
        exact hres _ _ _ _ _ hfr hlq hlw
      · exact absurd (nI_le (by omega) (by omega)) zc41
    | succ j ih =>
      intro c hc x4 x5 x6 x7 x8
      refine v_iload_n dX12_layFewest_36 rfl ?_
      refine v_aload_n dX12_layFewest_37 rfl ?_
      refine v_callV0 dX12_layFewest_38 mv_RX12_233 rfl rfl (Nat.le_of_ble_eq_true rfl) ?_
      refine ok_states (m := R.2.2.2.1) ?_ ?_
      · rw [fillI_o (by omega), fillI_o (by omega)]; exact h3
      show V _ _ _ _ (_ :: _) _ _
      refine v_icmp_ge dX12_layFewest_41 (fun zc41 => ?_) (fun zc41 => ?_)
      · exact absurd zc41 (nI_ge (by omega) (by omega))
      · refine v_aload_n dX12_layFewest_44 rfl ?_
        refine v_getR (q := 53) dX12_layFewest_45 fl_RX12_44 rfl rfl ?_
        refine v_iload_n dX12_layFewest_48 rfl ?_
        refine v_iconst dX12_layFewest_49 ?_
        refine v_iastore dX12_layFewest_50 rfl (by exact vp_in_nI (by omega) (by omega)) ?_
        rw [nI_clamp (by omega), fillI_s]
        refine v_iinc dX12_layFewest_51 rfl (Nat.le_of_ble_eq_true rfl) rfl ?_
        refine v_goto dX12_layFewest_54 ?_
        rw [nI_1]
        exact ih (c + 1) (by omega) _ _ _ _ _
  have fill1 : ∀ j v, v + j = 100 → ∀ x3 x4 x5 x6 x7 x8, V mX12_layFewest (D + 4) 2 [some (.ref 44), some (.int (nI R.2.2.2.2.length)), some (.int (nI v)), x3, x4, x5, x6, x7, x8] [] (fillI σ 57 v (-1)) Q := by
    intro j
    induction j with
    | zero =>
      intro v hv x3 x4 x5 x6 x7 x8
      have e : v = 100 := by omega
      subst e
      have hof : ∀ b, (fillI σ 57 100 (-1)).1 44 b = σ.1 44 b := fun b => fillI_o (by omega)
      have hS2 : RepS (fillI σ 57 100 (-1)) s := ⟨by rw [hof]; exact hS.1, by rw [hof]; exact hS.2.1, by rw [hof]; exact hS.2.2.1, by rw [hof]; exact hS.2.2.2⟩
      have h2 := fill2 (8 * R.2.2.2.1 * R.2.2.2.1) 0 (by omega)
      rw [fillI_0] at h2
      refine v_iload_n dX12_layFewest_2 rfl ?_
      refine v_bipush dX12_layFewest_3 ?_
      refine v_icmp_ge dX12_layFewest_5 (fun zc5 => ?_) (fun zc5 => ?_)
      · refine v_aload_n dX12_layFewest_21 rfl ?_
        refine v_getI dX12_layFewest_22 fl_RX12_65 rfl ?_
        rw [hof, h3]
        refine v_if_ne dX12_layFewest_25 (fun zc25 => ?_) (fun zc25 => ?_)
        · refine v_aload_n dX12_layFewest_29 rfl ?_
          refine v_callV0 dX12_layFewest_30 mv_RX12_229 rfl rfl (Nat.le_of_ble_eq_true rfl) ?_
          refine ok_stateNow (by rw [hof]; exact h3) hS2 hs.w hm2 ?_
          show V _ _ _ _ (_ :: _) _ _
          refine v_istore_n dX12_layFewest_33 (Nat.le_of_ble_eq_true rfl) rfl ?_
          refine v_iconst dX12_layFewest_34 ?_
          refine v_istore_n dX12_layFewest_35 (Nat.le_of_ble_eq_true rfl) rfl ?_
          exact h2 _ _ _ _ _
        · exact absurd zc25 (nI_ne0 hm (by omega))
      · exact absurd (show (100 : Int32) ≤ nI 100 by decide) zc5
    | succ j ih =>
      intro v hv x3 x4 x5 x6 x7 x8
      refine v_iload_n dX12_layFewest_2 rfl ?_
      refine v_bipush dX12_layFewest_3 ?_
      refine v_icmp_ge dX12_layFewest_5 (fun zc5 => ?_) (fun zc5 => ?_)
      · exact absurd zc5 (nI_ge (b := 100) (by omega) (by omega))
      · refine v_aload_n dX12_layFewest_8 rfl ?_
        refine v_getR (q := 57) dX12_layFewest_9 fl_RX12_56 rfl rfl ?_
        refine v_iload_n dX12_layFewest_12 rfl ?_
        refine v_iconst dX12_layFewest_13 ?_
        refine v_iastore dX12_layFewest_14 rfl (by exact vp_in_nI (by omega) (by omega)) ?_
        rw [nI_clamp (by omega), fillI_s]
        refine v_iinc dX12_layFewest_15 rfl (Nat.le_of_ble_eq_true rfl) rfl ?_
        refine v_goto dX12_layFewest_18 ?_
        rw [nI_1]
        exact ih (v + 1) (by omega) _ _ _ _ _ _
  refine ok_enter rfl (Nat.le_of_ble_eq_true rfl) ?_
  have h1 := fill1 100 0 (by omega)
  rw [fillI_0] at h1
  refine v_iconst dX12_layFewest_0 ?_
  refine v_istore_n dX12_layFewest_1 (Nat.le_of_ble_eq_true rfl) rfl ?_
  exact h1 _ _ _ _ _ _
end MB
