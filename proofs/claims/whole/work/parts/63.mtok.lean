/-! ===== the reference's tokens ===== -/
def fo27 (w : List Nat) : Nat := w.foldl (fun v c => 27 * v + (c - 96)) 0
def wtk (w : List Nat) : Int64 := if w.length ≤ 9 then lN (fo27 w) else -4
def tk (T : List Nat) (p : Nat) : Int64 := if T.length ≤ p then -2 else if isLe (T.getD p 0) = true then wtk (wrd T p) else if isDi (T.getD p 0) = true then -1 else if T.getD p 0 = 59 then -3 else -4
def nxt (T : List Nat) (p : Nat) : Nat := if T.length ≤ p then p else if isLe (T.getD p 0) = true then p + (wrd T p).length else if isDi (T.getD p 0) = true then spn isDi T p else p + 1
def NtF (σ τ : Wd) : Prop := (∀ a b, ¬ (a = 44 ∧ (b = 8 ∨ b = 9 ∨ b = 11 ∨ b = 12)) → τ.1 a b = σ.1 a b) ∧ (∀ a b, ¬ (a = 44 ∧ b = 10) → τ.2.1 a b = σ.2.1 a b) ∧ τ.2.2 = σ.2.2
section TK
variable {T : List Nat} {i p n k q : Nat}
theorem snoc_or (l : List Nat) : l = [] ∨ ∃ (L : List Nat) (b : Nat), l = L ++ [b] := by
  have h0 := List.reverse_reverse l
  cases h : l.reverse with
  | nil => rw [h] at h0; exact Or.inl h0.symm
  | cons b L => rw [h, List.reverse_cons] at h0; exact Or.inr ⟨L.reverse, b, h0.symm⟩
theorem fo27_s (w : List Nat) (c : Nat) : fo27 (w ++ [c]) = 27 * fo27 w + (c - 96) := by
  unfold fo27
  rw [List.foldl_append]
  rfl
theorem fo27_inj : ∀ (n : Nat) (a b : List Nat), a.length ≤ n → (∀ c ∈ a, 97 ≤ c ∧ c ≤ 122) → (∀ c ∈ b, 97 ≤ c ∧ c ≤ 122) → fo27 a = fo27 b → a = b := by
  intro n
  induction n with
  | zero =>
    intro a b hn ha hb h
    have e : a = [] := List.eq_nil_of_length_eq_zero (by omega)
    rw [e] at h ⊢
    rcases snoc_or b with rfl | ⟨B, y, rfl⟩
    · rfl
    · rw [fo27_s] at h
      have := hb y (List.mem_append_right _ (List.mem_singleton.mpr rfl))
      have h2 : fo27 [] = 0 := rfl
      omega
  | succ n ih =>
    intro a b hn ha hb h
    rcases snoc_or a with rfl | ⟨A, x, rfl⟩
    · rcases snoc_or b with rfl | ⟨B, y, rfl⟩
      · rfl
      · rw [fo27_s] at h
        have := hb y (List.mem_append_right _ (List.mem_singleton.mpr rfl))
        have h2 : fo27 [] = 0 := rfl
        omega
    · have hx := ha x (List.mem_append_right _ (List.mem_singleton.mpr rfl))
      rcases snoc_or b with rfl | ⟨B, y, rfl⟩
      · rw [fo27_s] at h
        have h2 : fo27 [] = 0 := rfl
        omega
      · have hy := hb y (List.mem_append_right _ (List.mem_singleton.mpr rfl))
        rw [fo27_s, fo27_s] at h
        rw [List.length_append, List.length_singleton] at hn
        have e := ih A B (by omega) (fun c hc => ha c (List.mem_append_left _ hc)) (fun c hc => hb c (List.mem_append_left _ hc)) (by omega)
        rw [e, show x = y by omega]
theorem fo27_lt : ∀ (w : List Nat), (∀ c ∈ w, 97 ≤ c ∧ c ≤ 122) → w.length ≤ 9 → fo27 w < 7625597484987 := by
  have h : ∀ (l : List Nat) (v c : Nat), (∀ x ∈ l, 97 ≤ x ∧ x ≤ 122) → v + 1 ≤ c → l.foldl (fun v c => 27 * v + (c - 96)) v + 1 ≤ c * 27 ^ l.length := by
    intro l
    induction l with
    | nil => intro v c _ hv; show v + 1 ≤ c * 1; omega
    | cons x l ih =>
      intro v c hx hv
      have h1 := hx x (List.mem_cons_self ..)
      have h2 := ih (27 * v + (x - 96)) (27 * c) (fun y hy => hx y (List.mem_cons_of_mem _ hy)) (by omega)
      rw [List.foldl_cons, List.length_cons]
      refine Nat.le_trans h2 ?_
      rw [Nat.pow_succ, Nat.mul_comm 27 c, Nat.mul_assoc, Nat.mul_comm 27 (27 ^ l.length)]
      exact Nat.le_refl _
  intro w hw hl
  have h1 := h w 0 1 hw (Nat.le_refl _)
  have h2 : 27 ^ w.length ≤ 27 ^ 9 := Nat.pow_le_pow_right (by omega) hl
  have h3 : (27 : Nat) ^ 9 = 7625597484987 := by decide
  unfold fo27
  omega
theorem lN_inj {a b : Nat} (ha : a < 9000000000000) (hb : b < 9000000000000) (h : lN a = lN b) : a = b := by
  have h1 := congrArg Int64.toInt h
  rw [show (lN a).toInt = (a : Int) from lg_ofNat_toInt (by omega), show (lN b).toInt = (b : Int) from lg_ofNat_toInt (by omega)] at h1
  omega
theorem wd_ok : ∀ q, q < 11 → (∀ c ∈ wd q, 97 ≤ c ∧ c ≤ 122) ∧ (wd q).length ≤ 9 ∧ wd q ≠ [] ∧ lN (fo27 (wd q)) ≠ -1 ∧ lN (fo27 (wd q)) ≠ -2 ∧ lN (fo27 (wd q)) ≠ -3 ∧ lN (fo27 (wd q)) ≠ -4 ∧ fo27 (wd q) < 9000000000000 := by decide +kernel
theorem getD_lt (h : p < T.length) : T.getD p 0 = T[p] := by rw [List.getD, List.getElem?_eq_getElem h]; rfl
theorem wrd_cons (h : p < T.length) (hl : isLe (T.getD p 0) = true) : wrd T p ≠ [] := by
  unfold wrd
  rw [getD_lt h] at hl
  rw [List.drop_eq_getElem_cons h, List.takeWhile_cons, if_pos hl]
  exact List.cons_ne_nil _ _
theorem wrd_nil (h : p < T.length) (hl : isLe (T.getD p 0) = false) : wrd T p = [] := by
  unfold wrd
  rw [getD_lt h] at hl
  rw [List.drop_eq_getElem_cons h, List.takeWhile_cons, if_neg (by rw [hl]; decide)]
theorem wrd_end0 (h : T.length ≤ p) : wrd T p = [] := by
  unfold wrd
  rw [List.drop_of_length_le h]
  rfl
theorem tk_w (hq : q < 11) : tk T p = lN (fo27 (wd q)) ↔ wrd T p = wd q := by
  obtain ⟨w1, w2, w3, w4, w5, w6, w7, w8⟩ := wd_ok q hq
  unfold tk
  by_cases h1 : T.length ≤ p
  · rw [if_pos h1]
    exact ⟨fun h => absurd h.symm w5, fun h => absurd (by rw [← h, wrd_end0 h1]) w3⟩
  · rw [if_neg h1]
    cases h2 : isLe (T.getD p 0) with
    | true =>
      rw [if_pos rfl]
      unfold wtk
      by_cases h3 : (wrd T p).length ≤ 9
      · rw [if_pos h3]
        refine ⟨fun h => fo27_inj 9 _ _ h3 wrd_le w1 (lN_inj (by have := fo27_lt (wrd T p) wrd_le h3; omega) w8 h), fun h => by rw [h]⟩
      · rw [if_neg h3]
        exact ⟨fun h => absurd h.symm w7, fun h => absurd (by rw [h]; exact w2) h3⟩
    | false =>
      rw [if_neg (by decide)]
      refine ⟨fun h => ?_, fun h => absurd (by rw [← h, wrd_nil (by omega) h2]) w3⟩
      split at h
      · exact absurd h.symm w4
      · split at h
        · exact absurd h.symm w6
        · exact absurd h.symm w7
theorem wtk_neg {w : List Nat} (hw : ∀ c ∈ w, 97 ≤ c ∧ c ≤ 122) : wtk w ≠ -1 ∧ wtk w ≠ -2 ∧ wtk w ≠ -3 := by
  unfold wtk
  split
  · have hl := fo27_lt w hw (by assumption)
    have e : (lN (fo27 w)).toInt = (fo27 w : Int) := lg_ofNat_toInt (by omega)
    refine ⟨fun h => ?_, fun h => ?_, fun h => ?_⟩ <;>
    · have h1 := congrArg Int64.toInt h
      rw [e] at h1
      have h2 : (-1 : Int64).toInt = -1 := by decide
      have h3 : (-2 : Int64).toInt = -2 := by decide
      have h4 : (-3 : Int64).toInt = -3 := by decide
      omega
  · decide
theorem tk_m2 : tk T p = -2 ↔ T.length ≤ p := by
  unfold tk
  by_cases h1 : T.length ≤ p
  · rw [if_pos h1]; exact ⟨fun _ => h1, fun _ => rfl⟩
  · rw [if_neg h1]
    refine ⟨fun h => ?_, fun h => absurd h h1⟩
    split at h
    · exact absurd h (wtk_neg wrd_le).2.1
    · split at h
      · exact absurd h (by decide)
      · split at h
        · exact absurd h (by decide)
        · exact absurd h (by decide)
theorem di_le {c : Nat} (h : isLe c = true) : isDi c = false := by
  have := of_decide_eq_true h
  exact decide_eq_false (by omega)
theorem tk_m1 : tk T p = -1 ↔ spn isDi T p ≠ p := by
  unfold tk
  by_cases h1 : T.length ≤ p
  · rw [if_pos h1, spn_end h1]; exact ⟨fun h => absurd h (by decide), fun h => absurd rfl h⟩
  · have h1' : p < T.length := by omega
    have e := spn_pos (p := isDi) h1'
    rw [← getD_lt h1'] at e
    rw [if_neg h1]
    cases h2 : isLe (T.getD p 0) with
    | true =>
      rw [if_pos rfl]
      exact ⟨fun h => absurd h (wtk_neg wrd_le).1, fun h => absurd (e.mpr (di_le h2)) h⟩
    | false =>
      rw [if_neg (by decide)]
      cases h3 : isDi (T.getD p 0) with
      | true =>
        rw [if_pos rfl]
        refine ⟨fun _ h => ?_, fun _ => rfl⟩
        rw [h3] at e
        exact absurd (e.mp h) (by decide)
      | false =>
        rw [if_neg (by decide)]
        refine ⟨fun h => ?_, fun h => absurd (e.mpr h3) h⟩
        split at h
        · exact absurd h (by decide)
        · exact absurd h (by decide)
theorem tk_m3 : tk T p = -3 ↔ T[p]? = some 59 := by
  unfold tk
  by_cases h1 : T.length ≤ p
  · rw [if_pos h1, List.getElem?_eq_none h1]; exact ⟨fun h => absurd h (by decide), fun h => by cases h⟩
  · have h1' : p < T.length := by omega
    rw [if_neg h1]
    have eq1 : T[p]? = some 59 ↔ T.getD p 0 = 59 := by
      rw [getD_lt h1', List.getElem?_eq_getElem h1']
      exact ⟨fun h => Option.some.inj h, fun h => by rw [h]⟩
    rw [eq1]
    cases h2 : isLe (T.getD p 0) with
    | true =>
      rw [if_pos rfl]
      have := of_decide_eq_true h2
      exact ⟨fun h => absurd h (wtk_neg wrd_le).2.2, fun h => by omega⟩
    | false =>
      rw [if_neg (by decide)]
      cases h3 : isDi (T.getD p 0) with
      | true =>
        rw [if_pos rfl]
        have := of_decide_eq_true h3
        exact ⟨fun h => absurd h (by decide), fun h => by omega⟩
      | false =>
        rw [if_neg (by decide)]
        by_cases h4 : T.getD p 0 = 59
        · rw [if_pos h4]; exact ⟨fun _ => h4, fun _ => rfl⟩
        · rw [if_neg h4]; exact ⟨fun h => absurd h (by decide), fun h => absurd h h4⟩
theorem nxt_w (hq : q < 11) (h : wrd T p = wd q) : nxt T p = p + (wrd T p).length := by
  obtain ⟨-, -, w3, -⟩ := wd_ok q hq
  unfold nxt
  by_cases h1 : T.length ≤ p
  · exact absurd (by rw [← h, wrd_end0 h1]) w3
  · rw [if_neg h1]
    cases h2 : isLe (T.getD p 0) with
    | true => rw [if_pos rfl]
    | false => exact absurd (by rw [← h, wrd_nil (by omega) h2]) w3
theorem nxt_d (h : spn isDi T p ≠ p) : nxt T p = spn isDi T p := by
  unfold nxt
  by_cases h1 : T.length ≤ p
  · exact absurd (spn_end h1) h
  · have h1' : p < T.length := by omega
    have e := spn_pos (p := isDi) h1'
    rw [← getD_lt h1'] at e
    rw [if_neg h1]
    cases h3 : isDi (T.getD p 0) with
    | false => exact absurd (e.mpr h3) h
    | true =>
      cases h2 : isLe (T.getD p 0) with
      | true => have := di_le h2; rw [h3] at this; cases this
      | false => rw [if_neg (by decide), if_pos rfl]
theorem nxt_e (h : T[p]? = some 59) : nxt T p = p + 1 := by
  obtain ⟨h1', h2⟩ := List.getElem?_eq_some_iff.mp h
  have e : T.getD p 0 = 59 := by rw [getD_lt h1']; exact h2
  unfold nxt
  rw [if_neg (by omega), e, if_neg (by decide), if_neg (by decide)]
end TK
section MT
variable {D : Nat} {σ τ : Wd} {Q : Option Value → Wd → Prop} {T : List Nat} {i p n k : Nat}
theorem RepMX.at (h : RepMX σ T) (hi : i < T.length) : σ.1 46 i = nI T[i] := h.2 i _ (List.getElem?_eq_getElem hi)
theorem NtF.x (h : NtF σ τ) (hX : RepMX σ T) : RepMX τ T := ⟨by rw [h.1 _ _ (by omega)]; exact hX.1, fun j c hj => by rw [h.1 _ _ (by omega)]; exact hX.2 j c hj⟩
theorem NtF.rf : NtF σ σ := ⟨fun _ _ _ => rfl, fun _ _ _ => rfl, rfl⟩
theorem NtF.tr {a b c : Wd} (h1 : NtF a b) (h2 : NtF b c) : NtF a c := ⟨fun x y h => by rw [h2.1 x y h, h1.1 x y h], fun x y h => by rw [h2.2.1 x y h, h1.2.1 x y h], by rw [h2.2.2, h1.2.2]⟩
theorem NtF.set {b : Nat} {x : Int32} (h : NtF σ τ) (hb : b = 8 ∨ b = 9 ∨ b = 11 ∨ b = 12) : NtF σ (setI τ 44 b x) := ⟨fun u v hh => by rw [setI_ne (by omega)]; exact h.1 u v hh, h.2.1, h.2.2⟩
theorem NtF.stL {x : Int64} (h : NtF σ τ) : NtF σ (setL τ 44 10 x) := ⟨h.1, fun u v hh => by rw [show (setL τ 44 10 x).2.1 u v = τ.2.1 u v from if_neg hh]; exact h.2.1 u v hh, h.2.2⟩
theorem nI_in2 {c lo hi : Nat} (hc : c < 256) : (if (nI lo).toInt ≤ (nI c).toInt ∧ (nI c).toInt ≤ (nI hi).toInt then (1 : Int32) else 0) = (if (nI lo).toInt ≤ (nI c).toInt ∧ (nI c).toInt ≤ (nI hi).toInt then 1 else 0) := rfl
theorem ok_in3 {c lo hi : Nat} (hc : c < 256) (hlo : lo < 256) (hhi : hi < 256) (hQ : Q (some (.int (if lo ≤ c ∧ c ≤ hi then 1 else 0))) σ) : Ok D mX12_in [.int (nI c), .int (nI lo), .int (nI hi)] σ Q := by
  refine ok_in ?_
  rw [nI_toInt (by omega), nI_toInt (by omega), nI_toInt (by omega)]
  by_cases h : lo ≤ c ∧ c ≤ hi
  · rw [if_pos h] at hQ
    rw [if_pos (by omega)]
    exact hQ
  · rw [if_neg h] at hQ
    rw [if_neg (by omega)]
    exact hQ
set_option maxHeartbeats 4000000 in
theorem ok_next (hX : RepMX σ T) (hT : vT T) (h8 : σ.1 44 8 = nI i) (hi : i ≤ T.length) (hQ : ∀ τ, NtF σ τ → τ.1 44 9 = nI (skp T i) → τ.2.1 44 10 = tk T (skp T i) → τ.1 44 8 = nI (nxt T (skp T i)) → (spn isDi T (skp T i) ≠ skp T i → τ.1 44 11 = nI (spn isDi T (skp T i) - skp T i) ∧ τ.1 44 12 = nI (nmb T (skp T i))) → Q none τ) : Ok (D + 1) mX12_nextToken [.ref 44] σ Q := by
  have hl := hT.1
  have hp : skp T i ≤ T.length := spn_le hi
  -- a word
  have word : skp T i < T.length → isLe (T.getD (skp T i) 0) = true → ∀ j c τ, c + j = T.length → skp T i ≤ c → spn isLe T c = skp T i + (wrd T (skp T i)).length → NtF σ τ → τ.1 44 9 = nI (skp T i) → τ.1 44 8 = nI c → τ.2.1 44 10 = (if c - skp T i ≤ 9 then lN (fo27 ((wrd T (skp T i)).take (c - skp T i))) else -4) → V mX12_nextToken (D + 1) 101 [some (.ref 44)] [] τ Q := by
    intro hpl hle j
    have hnd : ¬ spn isDi T (skp T i) ≠ skp T i := fun h => h ((spn_pos hpl).mpr (by rw [← getD_lt hpl]; exact di_le hle))
    have fin : ∀ c τ, skp T i ≤ c → c = skp T i + (wrd T (skp T i)).length → NtF σ τ → τ.1 44 9 = nI (skp T i) → τ.1 44 8 = nI c → τ.2.1 44 10 = (if c - skp T i ≤ 9 then lN (fo27 ((wrd T (skp T i)).take (c - skp T i))) else -4) → V mX12_nextToken (D + 1) 191 [some (.ref 44)] [] τ Q := by
      intro c τ hpc hce hF h9 hn htk
      have hcl : c ≤ T.length := by rw [hce]; exact wrd_len hp
      have hck : c - skp T i = (wrd T (skp T i)).length := by omega
      rw [hck, List.take_length] at htk
      have htk2 : τ.2.1 44 10 = tk T (skp T i) := by
        have e : tk T (skp T i) = wtk (wrd T (skp T i)) := by unfold tk; rw [if_neg (by omega), if_pos hle]
        rw [htk, e]
        rfl
      have hnx : nxt T (skp T i) = c := by unfold nxt; rw [if_neg (by omega), if_pos hle, hce]
      have h380 : Q none (setL τ 44 10 (tk T (skp T i))) := hQ _ hF.stL h9 setL_same (by rw [hnx]; exact hn) (fun h => absurd h hnd)
      refine v_aload_n dX12_nextToken_191 rfl ?_
      refine v_aload_n dX12_nextToken_192 rfl ?_
      refine v_getI dX12_nextToken_193 fl_RX12_79 rfl ?_
      rw [hn]
      refine v_aload_n dX12_nextToken_196 rfl ?_
      refine v_getI dX12_nextToken_197 fl_RX12_82 rfl ?_
      rw [h9]
      refine v_isub dX12_nextToken_200 ?_
      refine v_bipush dX12_nextToken_201 ?_
      rw [zI_sub hpc, show (9 : Int32) = nI 9 from rfl]
      refine v_icmp_le dX12_nextToken_203 (fun zc203 => ?_) (fun zc203 => ?_)
      · rw [nI_leI (by omega) (by omega)] at zc203
        refine v_aload_n dX12_nextToken_212 rfl ?_
        refine v_getJ dX12_nextToken_213 fl_RX12_93 rfl ?_
        rw [htk2]
        refine v_putJ dX12_nextToken_216 fp_RX12_93 rfl ?_
        refine v_goto dX12_nextToken_219 ?_
        refine v_return dX12_nextToken_380 rfl ?_
        first | exact h380 | (rw [show (-4 : Int64) = tk T (skp T i) by rw [← htk2, htk, if_neg (by omega)]]; exact h380)
      · rw [nI_leI (by omega) (by omega)] at zc203
        refine v_ldc2 dX12_nextToken_206 cn_RX12_101 ?_
        refine v_goto dX12_nextToken_209 ?_
        refine v_putJ dX12_nextToken_216 fp_RX12_93 rfl ?_
        refine v_goto dX12_nextToken_219 ?_
        refine v_return dX12_nextToken_380 rfl ?_
        first | exact h380 | (rw [show (-4 : Int64) = tk T (skp T i) by rw [← htk2, htk, if_neg (by omega)]]; exact h380)
    induction j with
    | zero =>
      intro c τ hc hpc hs hF h9 hn htk
      have hX2 := hF.x hX
      have hce : c = skp T i + (wrd T (skp T i)).length := by rw [← hs, spn_end (by omega)]
      have h191 := fin c τ hpc hce hF h9 hn htk
      refine v_aload_n dX12_nextToken_101 rfl ?_
      refine v_getI dX12_nextToken_102 fl_RX12_79 rfl ?_
      rw [hn]
      refine v_aload_n dX12_nextToken_105 rfl ?_
      refine v_getI dX12_nextToken_106 fl_RX12_73 rfl ?_
      rw [hX2.1]
      refine v_icmp_ge dX12_nextToken_109 (fun zc109 => ?_) (fun zc109 => ?_)
      · exact h191
      · exact absurd (nI_le (by omega) (by omega)) zc109
    | succ j ih =>
      intro c τ hc hpc hs hF h9 hn htk
      have hX2 := hF.x hX
      have hcl : c < T.length := by omega
      have hb := hX2.at hcl
      have hb2 := hT.at hcl
      by_cases he : 97 ≤ T[c] ∧ T[c] ≤ 122
      · have hs2 : spn isLe T (c + 1) = skp T i + (wrd T (skp T i)).length := by rw [← hs]; exact (spn_step hcl (decide_eq_true he)).symm
        have hwl : c - skp T i < (wrd T (skp T i)).length := by
          have := spn_ge (p := isLe) (T := T) (i := c + 1)
          omega
        have hwa : (wrd T (skp T i))[c - skp T i] = T[c] := by
          rw [wrd_at hwl (wrd_len hp)]
          simp only [show skp T i + (c - skp T i) = c by omega]
        have htk2 : (wrd T (skp T i)).take (c + 1 - skp T i) = (wrd T (skp T i)).take (c - skp T i) ++ [T[c]] := by
          rw [show c + 1 - skp T i = c - skp T i + 1 by omega, List.take_succ, List.getElem?_eq_getElem hwl, hwa]
          rfl
        rcases Nat.lt_or_ge (c - skp T i) 9 with h3 | h3
        · rw [if_pos (by omega)] at htk
          have hnx := ih (c + 1) (setI (setL τ 44 10 (lN (27 * fo27 ((wrd T (skp T i)).take (c - skp T i)) + (T[c] - 96)))) 44 8 (nI (c + 1))) (by omega) (by omega) hs2 (hF.stL.set (by omega)) (by rw [setI_ne (by omega)]; exact h9) setI_same (by rw [if_pos (by omega), htk2, fo27_s]; exact setL_same)
          refine v_aload_n dX12_nextToken_101 rfl ?_
          refine v_getI dX12_nextToken_102 fl_RX12_79 rfl ?_
          rw [hn]
          refine v_aload_n dX12_nextToken_105 rfl ?_
          refine v_getI dX12_nextToken_106 fl_RX12_73 rfl ?_
          rw [hX2.1]
          refine v_icmp_ge dX12_nextToken_109 (fun zc109 => ?_) (fun zc109 => ?_)
          · exact absurd zc109 (nI_ge (by omega) (by omega))
          · refine v_aload_n dX12_nextToken_112 rfl ?_
            refine v_getR (q := 46) dX12_nextToken_113 fl_RX12_17 rfl rfl ?_
            refine v_aload_n dX12_nextToken_116 rfl ?_
            refine v_getI dX12_nextToken_117 fl_RX12_79 rfl ?_
            rw [hn]
            refine v_iaload dX12_nextToken_120 rfl (by exact vp_in_nI (by omega) (by omega)) ?_
            rw [nI_clamp (by omega), hb]
            refine v_bipush dX12_nextToken_121 ?_
            refine v_bipush dX12_nextToken_123 ?_
            refine v_callS3 dX12_nextToken_125 ms_RX12_68 (Nat.le_of_ble_eq_true rfl) ?_
            refine ok_in3 (lo := 97) (hi := 122) hb2 (by omega) (by omega) ?_
            rw [if_pos he]
            show V _ _ _ _ (_ :: _) _ _
            refine v_if_eq dX12_nextToken_128 (fun zc128 => ?_) (fun zc128 => ?_)
            · exact absurd zc128 (by decide)
            · refine v_aload_n dX12_nextToken_131 rfl ?_
              refine v_aload_n dX12_nextToken_132 rfl ?_
              refine v_getI dX12_nextToken_133 fl_RX12_79 rfl ?_
              rw [hn]
              refine v_aload_n dX12_nextToken_136 rfl ?_
              refine v_getI dX12_nextToken_137 fl_RX12_82 rfl ?_
              rw [h9]
              refine v_isub dX12_nextToken_140 ?_
              refine v_bipush dX12_nextToken_141 ?_
              rw [zI_sub hpc]
              refine v_icmp_ge dX12_nextToken_143 (fun zc143 => ?_) (fun zc143 => ?_)
              · exact absurd zc143 (nI_ge (b := 9) h3 (by omega))
              · refine v_ldc2 dX12_nextToken_146 cn_RX12_97 ?_
                refine v_aload_n dX12_nextToken_149 rfl ?_
                refine v_getJ dX12_nextToken_150 fl_RX12_93 rfl ?_
                rw [htk]
                refine v_lmul dX12_nextToken_153 ?_
                refine v_aload_n dX12_nextToken_154 rfl ?_
                refine v_getR (q := 46) dX12_nextToken_155 fl_RX12_17 rfl rfl ?_
                refine v_aload_n dX12_nextToken_158 rfl ?_
                refine v_getI dX12_nextToken_159 fl_RX12_79 rfl ?_
                rw [hn]
                refine v_iaload dX12_nextToken_162 rfl (by exact vp_in_nI (by omega) (by omega)) ?_
                rw [nI_clamp (by omega), hb]
                refine v_i2l dX12_nextToken_163 ?_
                refine v_ladd dX12_nextToken_164 ?_
                refine v_ldc2 dX12_nextToken_165 cn_RX12_99 ?_
                refine v_lsub dX12_nextToken_168 ?_
                refine v_goto dX12_nextToken_169 ?_
                rw [nI_l (by omega), show (27 : Int64) = lN 27 from rfl, lN_mul, lN_add, show (96 : Int64) = lN 96 from rfl, lN_sub (by omega), show 27 * fo27 ((wrd T (skp T i)).take (c - skp T i)) + T[c] - 96 = 27 * fo27 ((wrd T (skp T i)).take (c - skp T i)) + (T[c] - 96) by omega]
                refine v_putJ dX12_nextToken_175 fp_RX12_93 rfl ?_
                refine v_aload_n dX12_nextToken_178 rfl ?_
                refine v_dup dX12_nextToken_179 rfl ?_
                refine v_getI dX12_nextToken_180 fl_RX12_79 rfl ?_
                rw [show (setL τ 44 10 (lN (27 * fo27 ((wrd T (skp T i)).take (c - skp T i)) + (T[c] - 96)))).1 44 8 = nI c from hn]
                refine v_iconst dX12_nextToken_183 ?_
                refine v_iadd dX12_nextToken_184 ?_
                rw [nI_1]
                refine v_putI dX12_nextToken_185 fp_RX12_79 rfl ?_
                refine v_goto dX12_nextToken_188 ?_
                exact hnx
        · have hnx := ih (c + 1) (setI (setL τ 44 10 (-4)) 44 8 (nI (c + 1))) (by omega) (by omega) hs2 (hF.stL.set (by omega)) (by rw [setI_ne (by omega)]; exact h9) setI_same (by rw [if_neg (by omega)]; exact setL_same)
          refine v_aload_n dX12_nextToken_101 rfl ?_
          refine v_getI dX12_nextToken_102 fl_RX12_79 rfl ?_
          rw [hn]
          refine v_aload_n dX12_nextToken_105 rfl ?_
          refine v_getI dX12_nextToken_106 fl_RX12_73 rfl ?_
          rw [hX2.1]
          refine v_icmp_ge dX12_nextToken_109 (fun zc109 => ?_) (fun zc109 => ?_)
          · exact absurd zc109 (nI_ge (by omega) (by omega))
          · refine v_aload_n dX12_nextToken_112 rfl ?_
            refine v_getR (q := 46) dX12_nextToken_113 fl_RX12_17 rfl rfl ?_
            refine v_aload_n dX12_nextToken_116 rfl ?_
            refine v_getI dX12_nextToken_117 fl_RX12_79 rfl ?_
            rw [hn]
            refine v_iaload dX12_nextToken_120 rfl (by exact vp_in_nI (by omega) (by omega)) ?_
            rw [nI_clamp (by omega), hb]
            refine v_bipush dX12_nextToken_121 ?_
            refine v_bipush dX12_nextToken_123 ?_
            refine v_callS3 dX12_nextToken_125 ms_RX12_68 (Nat.le_of_ble_eq_true rfl) ?_
            refine ok_in3 (lo := 97) (hi := 122) hb2 (by omega) (by omega) ?_
            rw [if_pos he]
            show V _ _ _ _ (_ :: _) _ _
            refine v_if_eq dX12_nextToken_128 (fun zc128 => ?_) (fun zc128 => ?_)
            · exact absurd zc128 (by decide)
            · refine v_aload_n dX12_nextToken_131 rfl ?_
              refine v_aload_n dX12_nextToken_132 rfl ?_
              refine v_getI dX12_nextToken_133 fl_RX12_79 rfl ?_
              rw [hn]
              refine v_aload_n dX12_nextToken_136 rfl ?_
              refine v_getI dX12_nextToken_137 fl_RX12_82 rfl ?_
              rw [h9]
              refine v_isub dX12_nextToken_140 ?_
              refine v_bipush dX12_nextToken_141 ?_
              rw [zI_sub hpc]
              refine v_icmp_ge dX12_nextToken_143 (fun zc143 => ?_) (fun zc143 => ?_)
              · refine v_ldc2 dX12_nextToken_172 cn_RX12_101 ?_
                refine v_putJ dX12_nextToken_175 fp_RX12_93 rfl ?_
                refine v_aload_n dX12_nextToken_178 rfl ?_
                refine v_dup dX12_nextToken_179 rfl ?_
                refine v_getI dX12_nextToken_180 fl_RX12_79 rfl ?_
                rw [show (setL τ 44 10 (-4)).1 44 8 = nI c from hn]
                refine v_iconst dX12_nextToken_183 ?_
                refine v_iadd dX12_nextToken_184 ?_
                rw [nI_1]
                refine v_putI dX12_nextToken_185 fp_RX12_79 rfl ?_
                refine v_goto dX12_nextToken_188 ?_
                exact hnx
              · exact absurd (nI_le (a := 9) h3 (by omega)) zc143
      · have hce : c = skp T i + (wrd T (skp T i)).length := by rw [← hs, spn_stop hcl (decide_eq_false he)]
        have h191 := fin c τ hpc hce hF h9 hn htk
        refine v_aload_n dX12_nextToken_101 rfl ?_
        refine v_getI dX12_nextToken_102 fl_RX12_79 rfl ?_
        rw [hn]
        refine v_aload_n dX12_nextToken_105 rfl ?_
        refine v_getI dX12_nextToken_106 fl_RX12_73 rfl ?_
        rw [hX2.1]
        refine v_icmp_ge dX12_nextToken_109 (fun zc109 => ?_) (fun zc109 => ?_)
        · exact absurd zc109 (nI_ge (by omega) (by omega))
        · refine v_aload_n dX12_nextToken_112 rfl ?_
          refine v_getR (q := 46) dX12_nextToken_113 fl_RX12_17 rfl rfl ?_
          refine v_aload_n dX12_nextToken_116 rfl ?_
          refine v_getI dX12_nextToken_117 fl_RX12_79 rfl ?_
          rw [hn]
          refine v_iaload dX12_nextToken_120 rfl (by exact vp_in_nI (by omega) (by omega)) ?_
          rw [nI_clamp (by omega), hb]
          refine v_bipush dX12_nextToken_121 ?_
          refine v_bipush dX12_nextToken_123 ?_
          refine v_callS3 dX12_nextToken_125 ms_RX12_68 (Nat.le_of_ble_eq_true rfl) ?_
          refine ok_in3 (lo := 97) (hi := 122) hb2 (by omega) (by omega) ?_
          rw [if_neg he]
          show V _ _ _ _ (_ :: _) _ _
          refine v_if_eq dX12_nextToken_128 (fun zc128 => ?_) (fun zc128 => ?_)
          · exact h191
          · exact absurd rfl zc128
  -- a number
  have numb : skp T i < T.length → isLe (T.getD (skp T i) 0) = false → isDi (T.getD (skp T i) 0) = true → ∀ j c τ, c + j = T.length → skp T i ≤ c → spn isDi T c = spn isDi T (skp T i) → NtF σ τ → τ.1 44 9 = nI (skp T i) → τ.1 44 8 = nI c → τ.1 44 11 = nI (c - skp T i) → τ.1 44 12 = nI (nv T (skp T i) (c - skp T i)) → V mX12_nextToken (D + 1) 241 [some (.ref 44)] [] τ Q := by
    intro hpl hle hdi j
    have hnd : spn isDi T (skp T i) ≠ skp T i := fun h => by
      have := (spn_pos hpl).mp h
      rw [← getD_lt hpl, hdi] at this
      cases this
    have fin : ∀ c τ, c = spn isDi T (skp T i) → NtF σ τ → τ.1 44 9 = nI (skp T i) → τ.1 44 8 = nI c → τ.1 44 11 = nI (c - skp T i) → τ.1 44 12 = nI (nv T (skp T i) (c - skp T i)) → V mX12_nextToken (D + 1) 333 [some (.ref 44)] [] τ Q := by
      intro c τ hce hF h9 hn h11 h12
      have h380 := hQ (setL τ 44 10 (-1)) hF.stL h9 (by rw [setL_same]; exact (tk_m1.mpr hnd).symm) (by rw [nxt_d hnd, ← hce]; exact hn) (fun _ => ⟨by rw [← hce]; exact h11, by unfold nmb; rw [← hce]; exact h12⟩)
      refine v_aload_n dX12_nextToken_333 rfl ?_
      refine v_ldc2 dX12_nextToken_334 cn_RX12_103 ?_
      refine v_putJ dX12_nextToken_337 fp_RX12_93 rfl ?_
      refine v_goto dX12_nextToken_340 ?_
      refine v_return dX12_nextToken_380 rfl ?_
      exact h380
    induction j with
    | zero =>
      intro c τ hc hpc hs hF h9 hn h11 h12
      have hX2 := hF.x hX
      have h333 := fin c τ (by rw [← hs, spn_end (by omega)]) hF h9 hn h11 h12
      refine v_aload_n dX12_nextToken_241 rfl ?_
      refine v_getI dX12_nextToken_242 fl_RX12_79 rfl ?_
      rw [hn]
      refine v_aload_n dX12_nextToken_245 rfl ?_
      refine v_getI dX12_nextToken_246 fl_RX12_73 rfl ?_
      rw [hX2.1]
      refine v_icmp_ge dX12_nextToken_249 (fun zc249 => ?_) (fun zc249 => ?_)
      · exact h333
      · exact absurd (nI_le (by omega) (by omega)) zc249
    | succ j ih =>
      intro c τ hc hpc hs hF h9 hn h11 h12
      have hX2 := hF.x hX
      have hcl : c < T.length := by omega
      have hb := hX2.at hcl
      have hb2 := hT.at hcl
      by_cases he : 48 ≤ T[c] ∧ T[c] ≤ 57
      · have hs2 : spn isDi T (c + 1) = spn isDi T (skp T i) := by rw [← hs]; exact (spn_step hcl (decide_eq_true he)).symm
        rcases Nat.lt_or_ge (c - skp T i) 3 with h3 | h3
        · have hvs := nv_s (T := T) (i := skp T i) (k := c - skp T i) (by omega) h3
          have hge : T[skp T i + (c - skp T i)]'(by omega) = T[c] := by simp only [show skp T i + (c - skp T i) = c by omega]
          rw [hge] at hvs
          have hnx := ih (c + 1) (setI (setI (setI τ 44 12 (nI (10 * nv T (skp T i) (c - skp T i) + (T[c] - 48)))) 44 11 (nI (c - skp T i + 1))) 44 8 (nI (c + 1))) (by omega) (by omega) hs2 (((hF.set (by omega)).set (by omega)).set (by omega)) (by rw [setI_ne (by omega), setI_ne (by omega), setI_ne (by omega)]; exact h9) setI_same (by rw [setI_ne (by omega), setI_same]; congr 1; omega) (by rw [setI_ne (by omega), setI_ne (by omega), setI_same, show c + 1 - skp T i = c - skp T i + 1 by omega, hvs])
          refine v_aload_n dX12_nextToken_241 rfl ?_
          refine v_getI dX12_nextToken_242 fl_RX12_79 rfl ?_
          rw [hn]
          refine v_aload_n dX12_nextToken_245 rfl ?_
          refine v_getI dX12_nextToken_246 fl_RX12_73 rfl ?_
          rw [hX2.1]
          refine v_icmp_ge dX12_nextToken_249 (fun zc249 => ?_) (fun zc249 => ?_)
          · exact absurd zc249 (nI_ge (by omega) (by omega))
          · refine v_aload_n dX12_nextToken_252 rfl ?_
            refine v_getR (q := 46) dX12_nextToken_253 fl_RX12_17 rfl rfl ?_
            refine v_aload_n dX12_nextToken_256 rfl ?_
            refine v_getI dX12_nextToken_257 fl_RX12_79 rfl ?_
            rw [hn]
            refine v_iaload dX12_nextToken_260 rfl (by exact vp_in_nI (by omega) (by omega)) ?_
            rw [nI_clamp (by omega), hb]
            refine v_bipush dX12_nextToken_261 ?_
            refine v_bipush dX12_nextToken_263 ?_
            refine v_callS3 dX12_nextToken_265 ms_RX12_68 (Nat.le_of_ble_eq_true rfl) ?_
            refine ok_in3 (lo := 48) (hi := 57) hb2 (by omega) (by omega) ?_
            rw [if_pos he]
            show V _ _ _ _ (_ :: _) _ _
            refine v_if_eq dX12_nextToken_268 (fun zc268 => ?_) (fun zc268 => ?_)
            · exact absurd zc268 (by decide)
            · refine v_aload_n dX12_nextToken_271 rfl ?_
              refine v_aload_n dX12_nextToken_272 rfl ?_
              refine v_getI dX12_nextToken_273 fl_RX12_85 rfl ?_
              rw [h11]
              refine v_iconst dX12_nextToken_276 ?_
              refine v_icmp_ge dX12_nextToken_277 (fun zc277 => ?_) (fun zc277 => ?_)
              · exact absurd zc277 (nI_ge (b := 3) h3 (by omega))
              · refine v_bipush dX12_nextToken_280 ?_
                refine v_aload_n dX12_nextToken_282 rfl ?_
                refine v_getI dX12_nextToken_283 fl_RX12_88 rfl ?_
                rw [h12]
                refine v_imul dX12_nextToken_286 ?_
                refine v_aload_n dX12_nextToken_287 rfl ?_
                refine v_getR (q := 46) dX12_nextToken_288 fl_RX12_17 rfl rfl ?_
                refine v_aload_n dX12_nextToken_291 rfl ?_
                refine v_getI dX12_nextToken_292 fl_RX12_79 rfl ?_
                rw [hn]
                refine v_iaload dX12_nextToken_295 rfl (by exact vp_in_nI (by omega) (by omega)) ?_
                rw [nI_clamp (by omega), hb]
                refine v_iadd dX12_nextToken_296 ?_
                refine v_bipush dX12_nextToken_297 ?_
                refine v_isub dX12_nextToken_299 ?_
                refine v_goto dX12_nextToken_300 ?_
                rw [show (10 : Int32) * nI (nv T (skp T i) (c - skp T i)) + nI T[c] - 48 = nI (10 * nv T (skp T i) (c - skp T i) + (T[c] - 48)) by rw [iz_nI, iz_nI, iz_nI, show (10 : Int32) = iz 10 from rfl, show (48 : Int32) = iz 48 from rfl, iz_mul, iz_add, iz_sub]; congr 1; omega]
                refine v_putI dX12_nextToken_307 fp_RX12_88 rfl ?_
                refine v_aload_n dX12_nextToken_310 rfl ?_
                refine v_dup dX12_nextToken_311 rfl ?_
                refine v_getI dX12_nextToken_312 fl_RX12_85 rfl ?_
                rw [setI_ne (by omega), h11]
                refine v_iconst dX12_nextToken_315 ?_
                refine v_iadd dX12_nextToken_316 ?_
                rw [nI_1]
                refine v_putI dX12_nextToken_317 fp_RX12_85 rfl ?_
                refine v_aload_n dX12_nextToken_320 rfl ?_
                refine v_dup dX12_nextToken_321 rfl ?_
                refine v_getI dX12_nextToken_322 fl_RX12_79 rfl ?_
                rw [setI_ne (by omega), setI_ne (by omega), hn]
                refine v_iconst dX12_nextToken_325 ?_
                refine v_iadd dX12_nextToken_326 ?_
                rw [nI_1]
                refine v_putI dX12_nextToken_327 fp_RX12_79 rfl ?_
                refine v_goto dX12_nextToken_330 ?_
                exact hnx
        · have hnx := ih (c + 1) (setI (setI (setI τ 44 12 (nI (nv T (skp T i) (c - skp T i)))) 44 11 (nI (c - skp T i + 1))) 44 8 (nI (c + 1))) (by omega) (by omega) hs2 (((hF.set (by omega)).set (by omega)).set (by omega)) (by rw [setI_ne (by omega), setI_ne (by omega), setI_ne (by omega)]; exact h9) setI_same (by rw [setI_ne (by omega), setI_same]; congr 1; omega) (by rw [setI_ne (by omega), setI_ne (by omega), setI_same, show c + 1 - skp T i = c - skp T i + 1 by omega, nv_3 h3])
          refine v_aload_n dX12_nextToken_241 rfl ?_
          refine v_getI dX12_nextToken_242 fl_RX12_79 rfl ?_
          rw [hn]
          refine v_aload_n dX12_nextToken_245 rfl ?_
          refine v_getI dX12_nextToken_246 fl_RX12_73 rfl ?_
          rw [hX2.1]
          refine v_icmp_ge dX12_nextToken_249 (fun zc249 => ?_) (fun zc249 => ?_)
          · exact absurd zc249 (nI_ge (by omega) (by omega))
          · refine v_aload_n dX12_nextToken_252 rfl ?_
            refine v_getR (q := 46) dX12_nextToken_253 fl_RX12_17 rfl rfl ?_
            refine v_aload_n dX12_nextToken_256 rfl ?_
            refine v_getI dX12_nextToken_257 fl_RX12_79 rfl ?_
            rw [hn]
            refine v_iaload dX12_nextToken_260 rfl (by exact vp_in_nI (by omega) (by omega)) ?_
            rw [nI_clamp (by omega), hb]
            refine v_bipush dX12_nextToken_261 ?_
            refine v_bipush dX12_nextToken_263 ?_
            refine v_callS3 dX12_nextToken_265 ms_RX12_68 (Nat.le_of_ble_eq_true rfl) ?_
            refine ok_in3 (lo := 48) (hi := 57) hb2 (by omega) (by omega) ?_
            rw [if_pos he]
            show V _ _ _ _ (_ :: _) _ _
            refine v_if_eq dX12_nextToken_268 (fun zc268 => ?_) (fun zc268 => ?_)
            · exact absurd zc268 (by decide)
            · refine v_aload_n dX12_nextToken_271 rfl ?_
              refine v_aload_n dX12_nextToken_272 rfl ?_
              refine v_getI dX12_nextToken_273 fl_RX12_85 rfl ?_
              rw [h11]
              refine v_iconst dX12_nextToken_276 ?_
              refine v_icmp_ge dX12_nextToken_277 (fun zc277 => ?_) (fun zc277 => ?_)
              · refine v_aload_n dX12_nextToken_303 rfl ?_
                refine v_getI dX12_nextToken_304 fl_RX12_88 rfl ?_
                rw [h12]
                refine v_putI dX12_nextToken_307 fp_RX12_88 rfl ?_
                refine v_aload_n dX12_nextToken_310 rfl ?_
                refine v_dup dX12_nextToken_311 rfl ?_
                refine v_getI dX12_nextToken_312 fl_RX12_85 rfl ?_
                rw [setI_ne (by omega), h11]
                refine v_iconst dX12_nextToken_315 ?_
                refine v_iadd dX12_nextToken_316 ?_
                rw [nI_1]
                refine v_putI dX12_nextToken_317 fp_RX12_85 rfl ?_
                refine v_aload_n dX12_nextToken_320 rfl ?_
                refine v_dup dX12_nextToken_321 rfl ?_
                refine v_getI dX12_nextToken_322 fl_RX12_79 rfl ?_
                rw [setI_ne (by omega), setI_ne (by omega), hn]
                refine v_iconst dX12_nextToken_325 ?_
                refine v_iadd dX12_nextToken_326 ?_
                rw [nI_1]
                refine v_putI dX12_nextToken_327 fp_RX12_79 rfl ?_
                refine v_goto dX12_nextToken_330 ?_
                exact hnx
              · exact absurd (nI_le (a := 3) h3 (by omega)) zc277
      · have h333 := fin c τ (by rw [← hs, spn_stop hcl (decide_eq_false he)]) hF h9 hn h11 h12
        refine v_aload_n dX12_nextToken_241 rfl ?_
        refine v_getI dX12_nextToken_242 fl_RX12_79 rfl ?_
        rw [hn]
        refine v_aload_n dX12_nextToken_245 rfl ?_
        refine v_getI dX12_nextToken_246 fl_RX12_73 rfl ?_
        rw [hX2.1]
        refine v_icmp_ge dX12_nextToken_249 (fun zc249 => ?_) (fun zc249 => ?_)
        · exact absurd zc249 (nI_ge (by omega) (by omega))
        · refine v_aload_n dX12_nextToken_252 rfl ?_
          refine v_getR (q := 46) dX12_nextToken_253 fl_RX12_17 rfl rfl ?_
          refine v_aload_n dX12_nextToken_256 rfl ?_
          refine v_getI dX12_nextToken_257 fl_RX12_79 rfl ?_
          rw [hn]
          refine v_iaload dX12_nextToken_260 rfl (by exact vp_in_nI (by omega) (by omega)) ?_
          rw [nI_clamp (by omega), hb]
          refine v_bipush dX12_nextToken_261 ?_
          refine v_bipush dX12_nextToken_263 ?_
          refine v_callS3 dX12_nextToken_265 ms_RX12_68 (Nat.le_of_ble_eq_true rfl) ?_
          refine ok_in3 (lo := 48) (hi := 57) hb2 (by omega) (by omega) ?_
          rw [if_neg he]
          show V _ _ _ _ (_ :: _) _ _
          refine v_if_eq dX12_nextToken_268 (fun zc268 => ?_) (fun zc268 => ?_)
          · exact h333
          · exact absurd rfl zc268
  -- behind the blanks
  have k38 : ∀ τ, NtF σ τ → τ.1 44 8 = nI (skp T i) → V mX12_nextToken (D + 1) 38 [some (.ref 44)] [] τ Q := by
    intro τ hF hn
    obtain ⟨τ1, hτ1⟩ : ∃ τ1, τ1 = setI (setI (setI τ 44 9 (nI (skp T i))) 44 11 0) 44 12 0 := ⟨_, rfl⟩
    have hF1 : NtF σ τ1 := by rw [hτ1]; exact ((hF.set (by omega)).set (by omega)).set (by omega)
    have hX1 := hF1.x hX
    have h91 : τ1.1 44 9 = nI (skp T i) := by rw [hτ1, setI_ne (by omega), setI_ne (by omega), setI_same]
    have hn1 : τ1.1 44 8 = nI (skp T i) := by rw [hτ1, setI_ne (by omega), setI_ne (by omega), setI_ne (by omega)]; exact hn
    have h111 : τ1.1 44 11 = nI 0 := by rw [hτ1, setI_ne (by omega), setI_same]; rfl
    have h121 : τ1.1 44 12 = nI 0 := by rw [hτ1, setI_same]; rfl
    have k56 : V mX12_nextToken (D + 1) 56 [some (.ref 44)] [] τ1 Q := by
      rcases Nat.lt_or_ge (skp T i) T.length with hpl | hpl
      · have hb := hX1.at hpl
        have hb2 := hT.at hpl
        have hg := getD_lt hpl
        cases hle : isLe (T.getD (skp T i) 0) with
        | true =>
          have h97 := of_decide_eq_true hle
          rw [hg] at h97
          have h101 := word hpl hle (T.length - skp T i) (skp T i) (setL τ1 44 10 0) (by omega) (Nat.le_refl _) rfl hF1.stL h91 hn1 (by rw [Nat.sub_self, if_pos (by omega)]; exact setL_same)
          refine v_aload_n dX12_nextToken_56 rfl ?_
          refine v_getI dX12_nextToken_57 fl_RX12_79 rfl ?_
          rw [hn1]
          refine v_aload_n dX12_nextToken_60 rfl ?_
          refine v_getI dX12_nextToken_61 fl_RX12_73 rfl ?_
          rw [hX1.1]
          refine v_icmp_ne dX12_nextToken_64 (fun zc64 => ?_) (fun zc64 => ?_)
          · refine v_aload_n dX12_nextToken_77 rfl ?_
            refine v_getR (q := 46) dX12_nextToken_78 fl_RX12_17 rfl rfl ?_
            refine v_aload_n dX12_nextToken_81 rfl ?_
            refine v_getI dX12_nextToken_82 fl_RX12_79 rfl ?_
            rw [hn1]
            refine v_iaload dX12_nextToken_85 rfl (by exact vp_in_nI (by omega) (by omega)) ?_
            rw [nI_clamp (by omega), hb]
            refine v_bipush dX12_nextToken_86 ?_
            refine v_bipush dX12_nextToken_88 ?_
            refine v_callS3 dX12_nextToken_90 ms_RX12_68 (Nat.le_of_ble_eq_true rfl) ?_
            refine ok_in3 (lo := 97) (hi := 122) hb2 (by omega) (by omega) ?_
            rw [if_pos h97]
            show V _ _ _ _ (_ :: _) _ _
            refine v_if_eq dX12_nextToken_93 (fun zc93 => ?_) (fun zc93 => ?_)
            · exact absurd zc93 (by decide)
            · refine v_aload_n dX12_nextToken_96 rfl ?_
              refine v_lconst dX12_nextToken_97 ?_
              refine v_putJ dX12_nextToken_98 fp_RX12_93 rfl ?_
              exact h101
          · exact absurd ((nI_eq (by omega) (by omega)).mp zc64) (by omega)
        | false =>
          have h97 := of_decide_eq_false hle
          rw [hg] at h97
          cases hdi : isDi (T.getD (skp T i) 0) with
          | true =>
            have h48 := of_decide_eq_true hdi
            rw [hg] at h48
            have h241 := numb hpl hle hdi (T.length - skp T i) (skp T i) τ1 (by omega) (Nat.le_refl _) rfl hF1 h91 hn1 (by rw [Nat.sub_self]; exact h111) (by rw [Nat.sub_self, nv_0]; exact h121)
            refine v_aload_n dX12_nextToken_56 rfl ?_
            refine v_getI dX12_nextToken_57 fl_RX12_79 rfl ?_
            rw [hn1]
            refine v_aload_n dX12_nextToken_60 rfl ?_
            refine v_getI dX12_nextToken_61 fl_RX12_73 rfl ?_
            rw [hX1.1]
            refine v_icmp_ne dX12_nextToken_64 (fun zc64 => ?_) (fun zc64 => ?_)
            · refine v_aload_n dX12_nextToken_77 rfl ?_
              refine v_getR (q := 46) dX12_nextToken_78 fl_RX12_17 rfl rfl ?_
              refine v_aload_n dX12_nextToken_81 rfl ?_
              refine v_getI dX12_nextToken_82 fl_RX12_79 rfl ?_
              rw [hn1]
              refine v_iaload dX12_nextToken_85 rfl (by exact vp_in_nI (by omega) (by omega)) ?_
              rw [nI_clamp (by omega), hb]
              refine v_bipush dX12_nextToken_86 ?_
              refine v_bipush dX12_nextToken_88 ?_
              refine v_callS3 dX12_nextToken_90 ms_RX12_68 (Nat.le_of_ble_eq_true rfl) ?_
              refine ok_in3 (lo := 97) (hi := 122) hb2 (by omega) (by omega) ?_
              rw [if_neg h97]
              show V _ _ _ _ (_ :: _) _ _
              refine v_if_eq dX12_nextToken_93 (fun zc93 => ?_) (fun zc93 => ?_)
              · refine v_aload_n dX12_nextToken_222 rfl ?_
                refine v_getR (q := 46) dX12_nextToken_223 fl_RX12_17 rfl rfl ?_
                refine v_aload_n dX12_nextToken_226 rfl ?_
                refine v_getI dX12_nextToken_227 fl_RX12_79 rfl ?_
                rw [hn1]
                refine v_iaload dX12_nextToken_230 rfl (by exact vp_in_nI (by omega) (by omega)) ?_
                rw [nI_clamp (by omega), hb]
                refine v_bipush dX12_nextToken_231 ?_
                refine v_bipush dX12_nextToken_233 ?_
                refine v_callS3 dX12_nextToken_235 ms_RX12_68 (Nat.le_of_ble_eq_true rfl) ?_
                refine ok_in3 (lo := 48) (hi := 57) hb2 (by omega) (by omega) ?_
                rw [if_pos h48]
                show V _ _ _ _ (_ :: _) _ _
                refine v_if_eq dX12_nextToken_238 (fun zc238 => ?_) (fun zc238 => ?_)
                · exact absurd zc238 (by decide)
                · exact h241
              · exact absurd rfl zc93
            · exact absurd ((nI_eq (by omega) (by omega)).mp zc64) (by omega)
          | false =>
            have h48 := of_decide_eq_false hdi
            rw [hg] at h48
            have hnd : ¬ spn isDi T (skp T i) ≠ skp T i := fun h => h ((spn_pos hpl).mpr (by rw [← hg]; exact hdi))
            have hnxt : nxt T (skp T i) = skp T i + 1 := by unfold nxt; rw [if_neg (by omega), hle, if_neg (by decide), hdi, if_neg (by decide)]
            have htk : tk T (skp T i) = if T[skp T i] = 59 then -3 else -4 := by unfold tk; rw [if_neg (by omega), hle, if_neg (by decide), hdi, if_neg (by decide), hg]
            have h380 := hQ (setI (setL τ1 44 10 (tk T (skp T i))) 44 8 (nI (skp T i + 1))) (hF1.stL.set (by omega)) (by rw [setI_ne (by omega)]; exact h91) setL_same (by rw [setI_same, hnxt]) (fun h => absurd h hnd)
            refine v_aload_n dX12_nextToken_56 rfl ?_
            refine v_getI dX12_nextToken_57 fl_RX12_79 rfl ?_
            rw [hn1]
            refine v_aload_n dX12_nextToken_60 rfl ?_
            refine v_getI dX12_nextToken_61 fl_RX12_73 rfl ?_
            rw [hX1.1]
            refine v_icmp_ne dX12_nextToken_64 (fun zc64 => ?_) (fun zc64 => ?_)
            · refine v_aload_n dX12_nextToken_77 rfl ?_
              refine v_getR (q := 46) dX12_nextToken_78 fl_RX12_17 rfl rfl ?_
              refine v_aload_n dX12_nextToken_81 rfl ?_
              refine v_getI dX12_nextToken_82 fl_RX12_79 rfl ?_
              rw [hn1]
              refine v_iaload dX12_nextToken_85 rfl (by exact vp_in_nI (by omega) (by omega)) ?_
              rw [nI_clamp (by omega), hb]
              refine v_bipush dX12_nextToken_86 ?_
              refine v_bipush dX12_nextToken_88 ?_
              refine v_callS3 dX12_nextToken_90 ms_RX12_68 (Nat.le_of_ble_eq_true rfl) ?_
              refine ok_in3 (lo := 97) (hi := 122) hb2 (by omega) (by omega) ?_
              rw [if_neg h97]
              show V _ _ _ _ (_ :: _) _ _
              refine v_if_eq dX12_nextToken_93 (fun zc93 => ?_) (fun zc93 => ?_)
              · refine v_aload_n dX12_nextToken_222 rfl ?_
                refine v_getR (q := 46) dX12_nextToken_223 fl_RX12_17 rfl rfl ?_
                refine v_aload_n dX12_nextToken_226 rfl ?_
                refine v_getI dX12_nextToken_227 fl_RX12_79 rfl ?_
                rw [hn1]
                refine v_iaload dX12_nextToken_230 rfl (by exact vp_in_nI (by omega) (by omega)) ?_
                rw [nI_clamp (by omega), hb]
                refine v_bipush dX12_nextToken_231 ?_
                refine v_bipush dX12_nextToken_233 ?_
                refine v_callS3 dX12_nextToken_235 ms_RX12_68 (Nat.le_of_ble_eq_true rfl) ?_
                refine ok_in3 (lo := 48) (hi := 57) hb2 (by omega) (by omega) ?_
                rw [if_neg h48]
                show V _ _ _ _ (_ :: _) _ _
                refine v_if_eq dX12_nextToken_238 (fun zc238 => ?_) (fun zc238 => ?_)
                · refine v_aload_n dX12_nextToken_343 rfl ?_
                  refine v_aload_n dX12_nextToken_344 rfl ?_
                  refine v_getR (q := 46) dX12_nextToken_345 fl_RX12_17 rfl rfl ?_
                  refine v_aload_n dX12_nextToken_348 rfl ?_
                  refine v_getI dX12_nextToken_349 fl_RX12_79 rfl ?_
                  rw [hn1]
                  refine v_iaload dX12_nextToken_352 rfl (by exact vp_in_nI (by omega) (by omega)) ?_
                  rw [nI_clamp (by omega), hb]
                  refine v_bipush dX12_nextToken_353 ?_
                  rw [show (59 : Int32) = nI 59 from rfl]
                  refine v_icmp_ne dX12_nextToken_355 (fun zc355 => ?_) (fun zc355 => ?_)
                  · rw [nI_eq (by omega) (by omega)] at zc355
                    rw [if_neg zc355] at htk
                    refine v_ldc2 dX12_nextToken_364 cn_RX12_101 ?_
                    rw [← htk]
                    refine v_putJ dX12_nextToken_367 fp_RX12_93 rfl ?_
                    refine v_aload_n dX12_nextToken_370 rfl ?_
                    refine v_dup dX12_nextToken_371 rfl ?_
                    refine v_getI dX12_nextToken_372 fl_RX12_79 rfl ?_
                    rw [show (setL τ1 44 10 (tk T (skp T i))).1 44 8 = nI (skp T i) from hn1]
                    refine v_iconst dX12_nextToken_375 ?_
                    refine v_iadd dX12_nextToken_376 ?_
                    rw [nI_1]
                    refine v_putI dX12_nextToken_377 fp_RX12_79 rfl ?_
                    refine v_return dX12_nextToken_380 rfl ?_
                    exact h380
                  · rw [nI_eq (by omega) (by omega)] at zc355
                    rw [if_pos zc355] at htk
                    refine v_ldc2 dX12_nextToken_358 cn_RX12_105 ?_
                    refine v_goto dX12_nextToken_361 ?_
                    rw [← htk]
                    refine v_putJ dX12_nextToken_367 fp_RX12_93 rfl ?_
                    refine v_aload_n dX12_nextToken_370 rfl ?_
                    refine v_dup dX12_nextToken_371 rfl ?_
                    refine v_getI dX12_nextToken_372 fl_RX12_79 rfl ?_
                    rw [show (setL τ1 44 10 (tk T (skp T i))).1 44 8 = nI (skp T i) from hn1]
                    refine v_iconst dX12_nextToken_375 ?_
                    refine v_iadd dX12_nextToken_376 ?_
                    rw [nI_1]
                    refine v_putI dX12_nextToken_377 fp_RX12_79 rfl ?_
                    refine v_return dX12_nextToken_380 rfl ?_
                    exact h380
                · exact absurd rfl zc238
              · exact absurd rfl zc93
            · exact absurd ((nI_eq (by omega) (by omega)).mp zc64) (by omega)
      · have hpe : skp T i = T.length := by omega
        have h380 := hQ (setL τ1 44 10 (-2)) hF1.stL h91 (by rw [setL_same]; exact (tk_m2.mpr hpl).symm) (by unfold nxt; rw [if_pos hpl]; exact hn1) (fun h => absurd (spn_end hpl) h)
        refine v_aload_n dX12_nextToken_56 rfl ?_
        refine v_getI dX12_nextToken_57 fl_RX12_79 rfl ?_
        rw [hn1]
        refine v_aload_n dX12_nextToken_60 rfl ?_
        refine v_getI dX12_nextToken_61 fl_RX12_73 rfl ?_
        rw [hX1.1]
        refine v_icmp_ne dX12_nextToken_64 (fun zc64 => ?_) (fun zc64 => ?_)
        · exact absurd (show nI (skp T i) = nI T.length by rw [hpe]) zc64
        · refine v_aload_n dX12_nextToken_67 rfl ?_
          refine v_ldc2 dX12_nextToken_68 cn_RX12_91 ?_
          refine v_putJ dX12_nextToken_71 fp_RX12_93 rfl ?_
          refine v_goto dX12_nextToken_74 ?_
          refine v_return dX12_nextToken_380 rfl ?_
          exact h380
    refine v_aload_n dX12_nextToken_38 rfl ?_
    refine v_aload_n dX12_nextToken_39 rfl ?_
    refine v_getI dX12_nextToken_40 fl_RX12_79 rfl ?_
    rw [hn]
    refine v_putI dX12_nextToken_43 fp_RX12_82 rfl ?_
    refine v_aload_n dX12_nextToken_46 rfl ?_
    refine v_iconst dX12_nextToken_47 ?_
    refine v_putI dX12_nextToken_48 fp_RX12_85 rfl ?_
    refine v_aload_n dX12_nextToken_51 rfl ?_
    refine v_iconst dX12_nextToken_52 ?_
    refine v_putI dX12_nextToken_53 fp_RX12_88 rfl ?_
    rw [← hτ1]
    exact k56
  have loop : ∀ j c τ, c + j = T.length → NtF σ τ → τ.1 44 8 = nI c → spn isBl T c = skp T i → V mX12_nextToken (D + 1) 0 [some (.ref 44)] [] τ Q := by
    intro j
    induction j with
    | zero =>
      intro c τ hc hF hn hs
      have hX2 := hF.x hX
      have h38 := k38 τ hF (by rw [hn, ← hs, spn_end (by omega)])
      refine v_aload_n dX12_nextToken_0 rfl ?_
      refine v_getI dX12_nextToken_1 fl_RX12_79 rfl ?_
      rw [hn]
      refine v_aload_n dX12_nextToken_4 rfl ?_
      refine v_getI dX12_nextToken_5 fl_RX12_73 rfl ?_
      rw [hX2.1]
      refine v_icmp_ge dX12_nextToken_8 (fun zc8 => ?_) (fun zc8 => ?_)
      · exact h38
      · exact absurd (nI_le (by omega) (by omega)) zc8
    | succ j ih =>
      intro c τ hc hF hn hs
      have hX2 := hF.x hX
      have hcl : c < T.length := by omega
      have hb := hX2.at hcl
      have hb2 := hT.at hcl
      by_cases he : T[c] = 32
      · have hnx := ih (c + 1) (setI τ 44 8 (nI (c + 1))) (by omega) (hF.set (by omega)) setI_same (by rw [← hs]; exact (spn_step hcl (decide_eq_true he)).symm)
        refine v_aload_n dX12_nextToken_0 rfl ?_
        refine v_getI dX12_nextToken_1 fl_RX12_79 rfl ?_
        rw [hn]
        refine v_aload_n dX12_nextToken_4 rfl ?_
        refine v_getI dX12_nextToken_5 fl_RX12_73 rfl ?_
        rw [hX2.1]
        refine v_icmp_ge dX12_nextToken_8 (fun zc8 => ?_) (fun zc8 => ?_)
        · exact absurd zc8 (nI_ge (by omega) (by omega))
        · refine v_aload_n dX12_nextToken_11 rfl ?_
          refine v_getR (q := 46) dX12_nextToken_12 fl_RX12_17 rfl rfl ?_
          refine v_aload_n dX12_nextToken_15 rfl ?_
          refine v_getI dX12_nextToken_16 fl_RX12_79 rfl ?_
          rw [hn]
          refine v_iaload dX12_nextToken_19 rfl (by exact vp_in_nI (by omega) (by omega)) ?_
          rw [nI_clamp (by omega), hb]
          refine v_bipush dX12_nextToken_20 ?_
          refine v_icmp_ne dX12_nextToken_22 (fun zc22 => ?_) (fun zc22 => ?_)
          · exact absurd (show nI T[c] = 32 by rw [he]; rfl) zc22
          · refine v_aload_n dX12_nextToken_25 rfl ?_
            refine v_dup dX12_nextToken_26 rfl ?_
            refine v_getI dX12_nextToken_27 fl_RX12_79 rfl ?_
            rw [hn]
            refine v_iconst dX12_nextToken_30 ?_
            refine v_iadd dX12_nextToken_31 ?_
            rw [nI_1]
            refine v_putI dX12_nextToken_32 fp_RX12_79 rfl ?_
            refine v_goto dX12_nextToken_35 ?_
            exact hnx
      · have h38 := k38 τ hF (by rw [hn, ← hs, spn_stop hcl (decide_eq_false he)])
        refine v_aload_n dX12_nextToken_0 rfl ?_
        refine v_getI dX12_nextToken_1 fl_RX12_79 rfl ?_
        rw [hn]
        refine v_aload_n dX12_nextToken_4 rfl ?_
        refine v_getI dX12_nextToken_5 fl_RX12_73 rfl ?_
        rw [hX2.1]
        refine v_icmp_ge dX12_nextToken_8 (fun zc8 => ?_) (fun zc8 => ?_)
        · exact absurd zc8 (nI_ge (by omega) (by omega))
        · refine v_aload_n dX12_nextToken_11 rfl ?_
          refine v_getR (q := 46) dX12_nextToken_12 fl_RX12_17 rfl rfl ?_
          refine v_aload_n dX12_nextToken_15 rfl ?_
          refine v_getI dX12_nextToken_16 fl_RX12_79 rfl ?_
          rw [hn]
          refine v_iaload dX12_nextToken_19 rfl (by exact vp_in_nI (by omega) (by omega)) ?_
          rw [nI_clamp (by omega), hb]
          refine v_bipush dX12_nextToken_20 ?_
          refine v_icmp_ne dX12_nextToken_22 (fun zc22 => ?_) (fun zc22 => ?_)
          · exact h38
          · exact absurd ((nI_eq (b := 32) (by omega) (by omega)).mp zc22) he
  refine ok_enter rfl (Nat.le_of_ble_eq_true rfl) ?_
  exact loop (T.length - i) i σ (by omega) NtF.rf h8 rfl
end MT
