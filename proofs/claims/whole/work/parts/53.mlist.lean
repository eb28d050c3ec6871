/-! ===== told numbers one behind the other: the reference, small things ===== -/
def L54 (τ : Wd) (m : Nat) (q : List En) : Prop := ∀ (j : Nat) (e : En), q[j]? = some e → τ.1 54 j = nI (mc m e.1)
def F53 (τ : Wd) (m : Nat) (q : List En) : Prop := (∀ e ∈ q, τ.1 53 (mc m e.1) = nI e.2.2.2) ∧ ∀ c, c < 8 * m * m → (∀ e ∈ q, mc m e.1 ≠ c) → τ.1 53 c = -1
def MSr (τ : Wd) (m : Nat) (src : List En) : Prop := ∀ (j : Nat) (x : En), src[j]? = some x → τ.1 56 j = nI (mc m x.1) ∧ τ.1 55 j = nI x.2.2.2
def ZF (σ τ : Wd) : Prop := (∀ a b, ¬ ((53 ≤ a ∧ a ≤ 59) ∨ (a = 44 ∧ 21 ≤ b ∧ b ≤ 24)) → τ.1 a b = σ.1 a b) ∧ τ.2 = σ.2
def pws (q : List En) : Prop := q.Pairwise (fun a b => a.2.2.2 ≤ b.2.2.2)
/-- states met, in order, up to b -/
def KR (R : Rk) (src q : List En) (b : Nat) : Prop := bfV R.2.2.2.1 q ∧ pws q ∧ (∀ e ∈ q, Snd R src e.1 e.2.2.2) ∧ ∀ e ∈ q, e.2.2.2 ≤ b
def MIv (R : Rk) (src : List En) (B0 : Nat) (q : List En) (i u U : Nat) : Prop :=
  KR R src q U ∧ i ≤ q.length ∧ u ≤ src.length ∧
  (∀ (j : Nat) (e : En) (k : Nat), j < i → q[j]? = some e → k < R.2.2.2.2.length → ∃ e' ∈ q, e'.1 = nx R e.1 k ∧ e'.2.2.2 ≤ e.2.2.2 + 1) ∧
  (∀ (j : Nat) (x : En), j < u → src[j]? = some x → ∃ e' ∈ q, e'.1 = x.1 ∧ e'.2.2.2 ≤ x.2.2.2) ∧
  (∀ (w : Nat) (x : En), u ≤ w → src[w]? = some x → U ≤ x.2.2.2) ∧ (∀ e, q[i]? = some e → U ≤ e.2.2.2 + 1) ∧ U ≤ B0 + i
section ML3
variable {D : Nat} {σ τ τ' : Wd} {Q : Option Value → Wd → Prop} {R : Rk} {s t : St} {q q' src : List En} {a b c g h i k n m d u U B0 : Nat} {tg : List Nat} {x : En}
theorem srt_of_pws (hp : pws q) : srt q := fun i j e e' hij he he' => by
  rcases Nat.lt_or_ge i j with h | h
  · obtain ⟨hi, hi2⟩ := List.getElem?_eq_some_iff.mp he
    obtain ⟨hj, hj2⟩ := List.getElem?_eq_some_iff.mp he'
    have := List.pairwise_iff_getElem.mp hp i j hi hj h
    rw [hi2, hj2] at this
    exact this
  · have e1 : i = j := by omega
    rw [e1, he'] at he
    rw [Option.some.inj he]
    exact Nat.le_refl _
theorem PV_skip {v : Nat} (h : ∀ x ∈ src, x.1.1 = v) : ∀ j i, (∀ u, i ≤ u → u < i + j → tg[u]? = some v) → LEQ (PV R src (tg.drop i)) (PV R src (tg.drop (i + j)))
  | 0, i, _ => LEQ.rf
  | j + 1, i, hu => by
    have h0 := hu i (Nat.le_refl _) (by omega)
    obtain ⟨hil, hiv⟩ := List.getElem?_eq_some_iff.mp h0
    have h1 := PV_dup (R := R) (tg := tg.drop (i + 1)) h
    have h2 := PV_skip h j (i + 1) (fun u a b => hu u (by omega) (by omega))
    rw [List.drop_eq_getElem_cons hil, hiv, show i + (j + 1) = i + 1 + j by omega]
    exact h1.tr h2
theorem ok_goOn {v : Nat} (hT : MRT σ tg) (hl : tg.length ≤ 6) (ht : ∀ v ∈ tg, v < 100) (hv : v < 100) (hi : i ≤ tg.length) (hQ : ∀ n, i ≤ n → n ≤ tg.length → (∀ u, i ≤ u → u < n → tg[u]? = some v) → (n < tg.length → tg[n]? ≠ some v) → Q (some (.int (nI n))) σ) : Ok D mX12_goOn [.ref 44, .int (nI i), .int (nI v)] σ Q := by
  have loop : ∀ j n, n + j = tg.length → i ≤ n → (∀ u, i ≤ u → u < n → tg[u]? = some v) → V mX12_goOn D 2 [some (.ref 44), some (.int (nI i)), some (.int (nI v)), some (.int (nI n))] [] σ Q := by
    intro j
    induction j with
    | zero =>
      intro n hn hin hu
      have h9 := hQ n hin (by omega) hu (fun h => absurd h (by omega))
      refine v_iload_n dX12_goOn_2 rfl ?_
      refine v_aload_n dX12_goOn_3 rfl ?_
      refine v_getI dX12_goOn_4 fl_RX12_191 rfl ?_
      rw [hT.1]
      refine v_icmp_ge dX12_goOn_7 (fun zc7 => ?_) (fun zc7 => ?_)
      · refine v_iload_n dX12_goOn_26 rfl ?_
        refine v_ireturn dX12_goOn_27 rfl (rfl) ?_
        exact h9
      · exact absurd (nI_le (by omega) (by omega)) zc7
    | succ j ih =>
      intro n hn hin hu
      have hnl : n < tg.length := by omega
      have hgn : tg[n]? = some tg[n] := List.getElem?_eq_getElem hnl
      have h8 := hT.2 n _ hgn
      have hvn := ht _ (List.getElem_mem hnl)
      by_cases he : tg[n] = v
      · have hnx := ih (n + 1) (by omega) (by omega) (fun u a b => by
          rcases Nat.lt_or_ge u n with h | h
          · exact hu u a h
          · have e : u = n := by omega
            rw [e, hgn, he])
        refine v_iload_n dX12_goOn_2 rfl ?_
        refine v_aload_n dX12_goOn_3 rfl ?_
        refine v_getI dX12_goOn_4 fl_RX12_191 rfl ?_
        rw [hT.1]
        refine v_icmp_ge dX12_goOn_7 (fun zc7 => ?_) (fun zc7 => ?_)
        · exact absurd zc7 (nI_ge (by omega) (by omega))
        · refine v_aload_n dX12_goOn_10 rfl ?_
          refine v_getR (q := 48) dX12_goOn_11 fl_RX12_26 rfl rfl ?_
          refine v_iload_n dX12_goOn_14 rfl ?_
          refine v_iaload dX12_goOn_15 rfl (by exact vp_in_nI (by omega) (by omega)) ?_
          rw [nI_clamp (by omega), h8]
          refine v_iload_n dX12_goOn_16 rfl ?_
          refine v_icmp_ne dX12_goOn_17 (fun zc17 => ?_) (fun zc17 => ?_)
          · exact absurd (show nI tg[n] = nI v by rw [he]) zc17
          · refine v_iinc dX12_goOn_20 rfl (Nat.le_of_ble_eq_true rfl) rfl ?_
            refine v_goto dX12_goOn_23 ?_
            rw [nI_1]
            exact hnx
      · have h9 := hQ n hin (by omega) hu (fun _ h => by rw [hgn] at h; exact he (Option.some.inj h))
        refine v_iload_n dX12_goOn_2 rfl ?_
        refine v_aload_n dX12_goOn_3 rfl ?_
        refine v_getI dX12_goOn_4 fl_RX12_191 rfl ?_
        rw [hT.1]
        refine v_icmp_ge dX12_goOn_7 (fun zc7 => ?_) (fun zc7 => ?_)
        · exact absurd zc7 (nI_ge (by omega) (by omega))
        · refine v_aload_n dX12_goOn_10 rfl ?_
          refine v_getR (q := 48) dX12_goOn_11 fl_RX12_26 rfl rfl ?_
          refine v_iload_n dX12_goOn_14 rfl ?_
          refine v_iaload dX12_goOn_15 rfl (by exact vp_in_nI (by omega) (by omega)) ?_
          rw [nI_clamp (by omega), h8]
          refine v_iload_n dX12_goOn_16 rfl ?_
          refine v_icmp_ne dX12_goOn_17 (fun zc17 => ?_) (fun zc17 => ?_)
          · refine v_iload_n dX12_goOn_26 rfl ?_
            refine v_ireturn dX12_goOn_27 rfl (rfl) ?_
            exact h9
          · exact absurd ((nI_eq (by omega) (by omega)).mp zc17) he
  refine ok_enter rfl (Nat.le_of_ble_eq_true rfl) ?_
  refine v_iload_n dX12_goOn_0 rfl ?_
  refine v_istore_n dX12_goOn_1 (Nat.le_of_ble_eq_true rfl) rfl ?_
  exact loop (tg.length - i) i (by omega) (Nat.le_refl _) (fun u a b => absurd b (by omega))
theorem ok_insert {y : Int32} (hil : i ≤ n) (hn : n < 80000) (hQ : ∀ τ : Wd, (∀ p b, p ≠ 54 → τ.1 p b = σ.1 p b) → τ.2 = σ.2 → (∀ j, j < i → τ.1 54 j = σ.1 54 j) → τ.1 54 i = y → (∀ j, i ≤ j → j < n → τ.1 54 (j + 1) = σ.1 54 j) → Q none τ) : Ok D mX12_insert [.ref 44, .int (nI i), .int (nI n), .int y] σ Q := by
  have loop : ∀ j w (τ : Wd), w = i + j → w ≤ n → (∀ p b, p ≠ 54 → τ.1 p b = σ.1 p b) → τ.2 = σ.2 → (∀ z, z ≤ w → τ.1 54 z = σ.1 54 z) → (∀ z, w ≤ z → z < n → τ.1 54 (z + 1) = σ.1 54 z) → V mX12_insert D 3 [some (.ref 44), some (.int (nI i)), some (.int (nI n)), some (.int y), some (.int (nI w))] [] τ Q := by
    intro j
    induction j with
    | zero =>
      intro w τ hw hwn h1 h2 h3 h4
      obtain rfl : w = i := by omega
      have h9 := hQ (setI τ 54 w y) (fun p b hp => by rw [setI_ne (by omega)]; exact h1 p b hp) h2 (fun j hj => by rw [setI_ne (by omega)]; exact h3 j (by omega)) setI_same (fun j a b => by rw [setI_ne (by omega)]; exact h4 j a b)
      refine v_iload dX12_insert_3 rfl ?_
      refine v_iload_n dX12_insert_5 rfl ?_
      refine v_icmp_le dX12_insert_6 (fun zc6 => ?_) (fun zc6 => ?_)
      · refine v_aload_n dX12_insert_31 rfl ?_
        refine v_getR (q := 54) dX12_insert_32 fl_RX12_47 rfl rfl ?_
        refine v_iload_n dX12_insert_35 rfl ?_
        refine v_iload_n dX12_insert_36 rfl ?_
        refine v_iastore dX12_insert_37 rfl (by exact vp_in_nI (by omega) (by omega)) ?_
        rw [nI_clamp (by omega)]
        refine v_return dX12_insert_38 rfl ?_
        exact h9
      · exact absurd (nI_le (Nat.le_refl _) (by omega)) zc6
    | succ j ih =>
      intro w τ hw hwn h1 h2 h3 h4
      have hnx := ih (w - 1) (setI τ 54 w (τ.1 54 (w - 1))) (by omega) (by omega) (fun p b hp => by rw [setI_ne (by omega)]; exact h1 p b hp) h2 (fun z hz => by rw [setI_ne (by omega)]; exact h3 z (by omega)) (fun z a b => by
        rcases Nat.lt_or_ge z w with h | h
        · have e : z + 1 = w := by omega
          rw [e, setI_same, show w - 1 = z by omega]
          exact h3 z (by omega)
        · rw [setI_ne (by omega)]
          exact h4 z h b)
      refine v_iload dX12_insert_3 rfl ?_
      refine v_iload_n dX12_insert_5 rfl ?_
      refine v_icmp_le dX12_insert_6 (fun zc6 => ?_) (fun zc6 => ?_)
      · exact absurd zc6 (nI_ge (by omega) (by omega))
      · refine v_aload_n dX12_insert_9 rfl ?_
        refine v_getR (q := 54) dX12_insert_10 fl_RX12_47 rfl rfl ?_
        refine v_iload dX12_insert_13 rfl ?_
        refine v_aload_n dX12_insert_15 rfl ?_
        refine v_getR (q := 54) dX12_insert_16 fl_RX12_47 rfl rfl ?_
        refine v_iload dX12_insert_19 rfl ?_
        refine v_iconst dX12_insert_21 ?_
        refine v_isub dX12_insert_22 ?_
        rw [show (1 : Int32) = nI 1 from rfl, zI_sub (by omega)]
        refine v_iaload dX12_insert_23 rfl (by exact vp_in_nI (by omega) (by omega)) ?_
        rw [nI_clamp (by omega)]
        refine v_iastore dX12_insert_24 rfl (by exact vp_in_nI (by omega) (by omega)) ?_
        rw [nI_clamp (by omega)]
        refine v_iinc dX12_insert_25 rfl (Nat.le_of_ble_eq_true rfl) rfl ?_
        refine v_goto dX12_insert_28 ?_
        rw [show nI w + (-1 : Int32) = nI (w - 1) by rw [iz_nI, iz_nI, show (-1 : Int32) = iz (-1) from rfl, iz_add]; congr 1; omega]
        exact hnx
  refine ok_enter rfl (Nat.le_of_ble_eq_true rfl) ?_
  refine v_iload_n dX12_insert_0 rfl ?_
  refine v_istore dX12_insert_1 (Nat.le_of_ble_eq_true rfl) rfl ?_
  exact loop (n - i) n σ (by omega) (Nat.le_refl _) (fun _ _ _ => rfl) rfl (fun _ _ => rfl) (fun z a b => absurd b (by omega))
theorem zf_sc (h : ZF σ τ) (hS : RepS σ s) : ScFr σ (putS τ s) := by
  have he : putS σ s = σ := putS_id hS
  refine ⟨fun p b hp => ?_, h.2⟩
  by_cases hc : p = 44 ∧ 21 ≤ b ∧ b ≤ 24
  · rw [← he]
    obtain ⟨rfl, h1, h2⟩ := hc
    have h3 : RepS (putS τ s) s := putS_rep
    have h4 : RepS (putS σ s) s := putS_rep
    rcases (show b = 21 ∨ b = 22 ∨ b = 23 ∨ b = 24 by omega) with rfl | rfl | rfl | rfl
    · rw [he]; rw [h3.1]; exact hS.1.symm
    · rw [he]; rw [h3.2.1]; exact hS.2.1.symm
    · rw [he]; rw [h3.2.2.1]; exact hS.2.2.1.symm
    · rw [he]; rw [h3.2.2.2]; exact hS.2.2.2.symm
  · rw [putS_o hc]
    exact h.1 p b (fun hh => hh.elim hp hc)
theorem ZF.rf : ZF σ σ := ⟨fun _ _ _ => rfl, rfl⟩
theorem ZF.set {x : Int32} (h : ZF σ τ) (ha : 53 ≤ a ∧ a ≤ 59) : ZF σ (setI τ a b x) := ⟨fun u v hh => by rw [setI_ne (by omega)]; exact h.1 u v hh, h.2⟩
theorem ZF.putS (h : ZF σ τ) : ZF σ (putS τ t) := ⟨fun u v hh => by rw [putS_o (by omega)]; exact h.1 u v hh, h.2⟩
/-! marks -/
theorem F53.has (h : F53 τ m q) (hb : ∀ e ∈ q, e.2.2.2 < 2000000) (hx : ∃ e ∈ q, e.1 = t) : ¬ τ.1 53 (mc m t) = -1 := by
  obtain ⟨e, h1, rfl⟩ := hx
  rw [h.1 e h1]
  exact nI_nm1 (by have := hb e h1; omega)
theorem F53.no (h : F53 τ m q) (hm : 0 < m) (hV : bfV m q) (ht : vS m t) (hx : ∀ e ∈ q, e.1 ≠ t) : τ.1 53 (mc m t) = -1 := h.2 _ (mc_lt hm ht.w) (fun e he h2 => hx e he (mc_inj hm (hV.2 e he).w ht.w h2))
theorem F53.add (h : F53 τ m q) (hm : 0 < m) (hV : bfV m q) (ht : vS m x.1) (hx : ∀ e ∈ q, e.1 ≠ x.1) (hq : ∀ e, e ∈ q' ↔ e ∈ q ∨ e = x) (h1 : τ'.1 53 (mc m x.1) = nI x.2.2.2) (h2 : ∀ c, c ≠ mc m x.1 → τ'.1 53 c = τ.1 53 c) : F53 τ' m q' := by
  refine ⟨fun e he => ?_, fun c hc hn => ?_⟩
  · rcases (hq e).mp he with h3 | h3
    · rw [h2 _ (fun h4 => hx e h3 (mc_inj hm (hV.2 e h3).w ht.w h4))]
      exact h.1 e h3
    · rw [h3]; exact h1
  · rw [h2 c (fun h4 => hn x ((hq x).mpr (Or.inr rfl)) h4.symm)]
    exact h.2 c hc (fun e he => hn e ((hq e).mpr (Or.inl he)))
theorem F53.kept (h : F53 τ m q) (hk : ∀ b, τ'.1 53 b = τ.1 53 b) : F53 τ' m q := ⟨fun e he => by rw [hk]; exact h.1 e he, fun c hc hn => by rw [hk]; exact h.2 c hc hn⟩
theorem L54.kept (h : L54 τ m q) (hk : ∀ b, τ'.1 54 b = τ.1 54 b) : L54 τ' m q := fun j e hj => by rw [hk]; exact h j e hj
theorem L54.add (h : L54 τ m q) (h1 : τ'.1 54 q.length = nI (mc m x.1)) (h2 : ∀ b, b ≠ q.length → τ'.1 54 b = τ.1 54 b) : L54 τ' m (q ++ [x]) := fun j e hj => by
  rcases getQ_app hj with ⟨j1, j2⟩ | ⟨j1, j2⟩
  · rw [h2 j (by omega)]; exact h j e j2
  · rw [j1, j2]; exact h1
def insQ (q : List En) (i : Nat) (x : En) : List En := q.take i ++ x :: q.drop i
theorem insQ_mem {e : En} : e ∈ insQ q i x ↔ e ∈ q ∨ e = x := by
  unfold insQ
  rw [List.mem_append, List.mem_cons]
  constructor
  · rintro (h | h | h)
    · exact Or.inl (List.mem_of_mem_take h)
    · exact Or.inr h
    · exact Or.inl (List.mem_of_mem_drop h)
  · rintro (h | h)
    · rw [← List.take_append_drop i q, List.mem_append] at h
      rcases h with h | h
      · exact Or.inl h
      · exact Or.inr (Or.inr h)
    · exact Or.inr (Or.inl h)
theorem insQ_len (hi : i ≤ q.length) : (insQ q i x).length = q.length + 1 := by
  unfold insQ
  rw [List.length_append, List.length_cons, List.length_take, List.length_drop]
  omega
theorem insQ_lt {j : Nat} (hi : i ≤ q.length) (hj : j < i) : (insQ q i x)[j]? = q[j]? := by
  unfold insQ
  rw [List.getElem?_append_left (by rw [List.length_take]; omega), List.getElem?_take_of_lt hj]
theorem insQ_at (hi : i ≤ q.length) : (insQ q i x)[i]? = some x := by
  unfold insQ
  rw [List.getElem?_append_right (by rw [List.length_take]; omega), List.length_take, show i - min i q.length = 0 by omega]
  rfl
theorem insQ_gt {j : Nat} (hi : i ≤ q.length) (hj : i ≤ j) : (insQ q i x)[j + 1]? = q[j]? := by
  unfold insQ
  rw [List.getElem?_append_right (by rw [List.length_take]; omega), List.length_take, show j + 1 - min i q.length = (j - i) + 1 by omega, List.getElem?_cons_succ, List.getElem?_drop, show i + (j - i) = j by omega]
theorem L54.ins (hi : i ≤ q.length) (h : L54 τ m q) (h1 : ∀ j, j < i → τ'.1 54 j = τ.1 54 j) (h2 : τ'.1 54 i = nI (mc m x.1)) (h3 : ∀ j, i ≤ j → j < q.length → τ'.1 54 (j + 1) = τ.1 54 j) : L54 τ' m (insQ q i x) := fun j e hj => by
  rcases Nat.lt_or_ge j i with hlt | hge
  · rw [insQ_lt hi hlt] at hj
    rw [h1 j hlt]; exact h j e hj
  · rcases Nat.eq_or_lt_of_le hge with he | hgt
    · rw [← he, insQ_at hi] at hj
      rw [← he, h2, Option.some.inj hj]
    · obtain ⟨j', rfl⟩ : ∃ j', j = j' + 1 := ⟨j - 1, by omega⟩
      rw [insQ_gt hi (by omega)] at hj
      rw [h3 j' (by omega) (List.getElem?_eq_some_iff.mp hj).1]
      exact h j' e hj
theorem bfV_perm (hp : q.Perm q') (h : bfV m q) : bfV m q' := ⟨(hp.map _).nodup_iff.mp h.1, fun y hy => h.2 y (hp.mem_iff.mpr hy)⟩
theorem KR.up (h : KR R src q b) (hb : b ≤ c) : KR R src q c := ⟨h.1, h.2.1, h.2.2.1, fun e he => Nat.le_trans (h.2.2.2 e he) hb⟩
theorem KR.add (h : KR R src q b) (hx : vS R.2.2.2.1 x.1) (hne : ∀ e ∈ q, e.1 ≠ x.1) (hb : b ≤ x.2.2.2) (hs : Snd R src x.1 x.2.2.2) : KR R src (q ++ [x]) x.2.2.2 := by
  obtain ⟨a1, a2, a3, a4⟩ := h
  have hV := (bfV_nod (E := []) (by rw [List.append_nil]; exact a1) hx (by rw [List.append_nil]; exact hne)).1
  rw [List.append_nil] at hV
  refine ⟨hV, List.pairwise_append.mpr ⟨a2, List.pairwise_singleton _ _, fun y hy z hz => by rw [List.mem_singleton.mp hz]; exact Nat.le_trans (a4 y hy) hb⟩, fun e he => ?_, fun e he => ?_⟩
  · rcases List.mem_append.mp he with h1 | h1
    · exact a3 e h1
    · rw [List.mem_singleton.mp h1]; exact hs
  · rcases List.mem_append.mp he with h1 | h1
    · exact Nat.le_trans (a4 e h1) hb
    · rw [List.mem_singleton.mp h1]; exact Nat.le_refl _
theorem pws_drop (hp : pws q) {e : En} (he : q[i]? = some e) : ∀ z ∈ q.drop i, e.2.2.2 ≤ z.2.2.2 := fun z hz => by
  obtain ⟨j, hj⟩ := List.getElem?_of_mem hz
  rw [List.getElem?_drop] at hj
  exact srt_of_pws hp i (i + j) e z (by omega) he hj
theorem KR.ins (h : KR R src q b) (hi : i ≤ q.length) (hx : vS R.2.2.2.1 x.1) (hne : ∀ e ∈ q, e.1 ≠ x.1) (hb : b ≤ x.2.2.2) (hd : ∀ e, q[i]? = some e → x.2.2.2 ≤ e.2.2.2) (hs : Snd R src x.1 x.2.2.2) : KR R src (insQ q i x) x.2.2.2 := by
  have h2 := h.add hx hne hb hs
  have hp : (q ++ [x]).Perm (insQ q i x) := by
    unfold insQ
    have h3 : (q.take i ++ q.drop i ++ [x]).Perm (q.take i ++ x :: q.drop i) := by
      rw [List.append_assoc]
      exact List.Perm.append_left _ (List.perm_append_comm (l₂ := [x]))
    rwa [List.take_append_drop] at h3
  refine ⟨bfV_perm hp h2.1, ?_, fun e he => h2.2.2.1 e (hp.mem_iff.mpr he), fun e he => h2.2.2.2 e (hp.mem_iff.mpr he)⟩
  have hpq : pws q := h.2.1
  have hta : (q.take i).Pairwise (fun a b : En => a.2.2.2 ≤ b.2.2.2) := hpq.sublist (List.take_sublist _ _)
  have htd : (q.drop i).Pairwise (fun a b : En => a.2.2.2 ≤ b.2.2.2) := hpq.sublist (List.drop_sublist _ _)
  have hxd : ∀ z ∈ q.drop i, x.2.2.2 ≤ z.2.2.2 := fun z hz => by
    rcases Nat.lt_or_ge i q.length with h5 | h5
    · have h6 := List.getElem?_eq_getElem h5
      exact Nat.le_trans (hd _ h6) (pws_drop hpq h6 z hz)
    · rw [List.drop_of_length_le h5] at hz; exact absurd hz List.not_mem_nil
  unfold insQ
  refine List.pairwise_append.mpr ⟨hta, List.pairwise_cons.mpr ⟨hxd, htd⟩, fun y hy z hz => ?_⟩
  have hyx : y.2.2.2 ≤ x.2.2.2 := Nat.le_trans (h.2.2.2 y (List.mem_of_mem_take hy)) hb
  rcases List.mem_cons.mp hz with h7 | h7
  · rw [h7]; exact hyx
  · exact Nat.le_trans hyx (hxd z h7)
theorem MIv.skip (h : MIv R src B0 q i u U) (hx : src[u]? = some x) (he : ∃ e ∈ q, e.1 = x.1) : MIv R src B0 q i (u + 1) U := by
  obtain ⟨a1, a2, a3, a4, a5, a6, a7, a8⟩ := h
  refine ⟨a1, a2, (List.getElem?_eq_some_iff.mp hx).1, a4, fun j y hj hy => ?_, fun w y hw hy => a6 w y (by omega) hy, a7, a8⟩
  rcases Nat.lt_or_ge j u with h1 | h1
  · exact a5 j y h1 hy
  · have e : j = u := by omega
    rw [e, hx] at hy
    obtain ⟨z, z1, z2⟩ := he
    rw [← Option.some.inj hy]
    exact ⟨z, z1, z2, Nat.le_trans (a1.2.2.2 z z1) (a6 u x (Nat.le_refl _) hx)⟩
theorem MIv.ins (hss : srt src) (h : MIv R src B0 q i u U) (hx : src[u]? = some x) (hv : vS R.2.2.2.1 x.1) (hne : ∀ e ∈ q, e.1 ≠ x.1) (hd : ∀ e, q[i]? = some e → x.2.2.2 ≤ e.2.2.2) (hB : x.2.2.2 ≤ B0) : MIv R src B0 (insQ q i x) i (u + 1) x.2.2.2 := by
  obtain ⟨a1, a2, a3, a4, a5, a6, a7, a8⟩ := h
  have hxs := List.mem_of_getElem? hx
  refine ⟨a1.ins a2 hv hne (a6 u x (Nat.le_refl _) hx) hd ⟨x, hxs, [], fun k hk => absurd hk List.not_mem_nil, rfl, rfl⟩, by rw [insQ_len a2]; omega, (List.getElem?_eq_some_iff.mp hx).1, fun j e k hj he hk => ?_, fun j y hj hy => ?_, fun w y hw hy => hss u w x y (by omega) hx hy, fun e he => ?_, by omega⟩
  · rw [insQ_lt a2 hj] at he
    obtain ⟨e', b1, b2⟩ := a4 j e k hj he hk
    exact ⟨e', insQ_mem.mpr (Or.inl b1), b2⟩
  · rcases Nat.lt_or_ge j u with h1 | h1
    · obtain ⟨e', b1, b2⟩ := a5 j y h1 hy
      exact ⟨e', insQ_mem.mpr (Or.inl b1), b2⟩
    · have e : j = u := by omega
      rw [e, hx] at hy
      rw [← Option.some.inj hy]
      exact ⟨x, insQ_mem.mpr (Or.inr rfl), rfl, Nat.le_refl _⟩
  · rw [insQ_at a2] at he
    rw [Option.some.inj he]
    omega
theorem MIv.turn {e : En} (h : MIv R src B0 q i u U) (he : q[i]? = some e) (hsr : ∀ (w : Nat) (x : En), u ≤ w → src[w]? = some x → e.2.2.2 + 1 ≤ x.2.2.2) (hp : q <+: q') (hK : KR R src q' (e.2.2.2 + 1)) (hk : ∀ k, k < R.2.2.2.2.length → ∃ e' ∈ q', e'.1 = nx R e.1 k ∧ e'.2.2.2 ≤ e.2.2.2 + 1) : MIv R src B0 q' (i + 1) u (e.2.2.2 + 1) := by
  obtain ⟨a1, a2, a3, a4, a5, a6, a7, a8⟩ := h
  have hl := hp.length_le
  have hil := (List.getElem?_eq_some_iff.mp he).1
  have heU := a1.2.2.2 e (List.mem_of_getElem? he)
  refine ⟨hK, by omega, a3, fun j y k hj hy hkk => ?_, fun j y hj hy => ?_, hsr, fun y hy => ?_, by omega⟩
  · rcases Nat.lt_or_ge j i with h1 | h1
    · have hy2 : q[j]? = some y := by
        obtain ⟨w, hw⟩ := hp
        rw [← hw, List.getElem?_append_left (by omega)] at hy
        exact hy
      obtain ⟨e', b1, b2⟩ := a4 j y k h1 hy2 hkk
      exact ⟨e', hp.subset b1, b2⟩
    · have e1 : j = i := by omega
      rw [e1, pre_get hp he] at hy
      rw [← Option.some.inj hy]
      exact hk k hkk
  · obtain ⟨e', b1, b2⟩ := a5 j y hj hy
    exact ⟨e', hp.subset b1, b2⟩
  · have := srt_of_pws hK.2.1 i (i + 1) e y (by omega) (pre_get hp he) hy
    omega
theorem MIv.stg {v : Nat} (h : MIv R src B0 q i u U) (hi : i = q.length) (hu : u = src.length) : Stg R src v (q.filter (fun e => decide (e.1.1 = v))) false := by
  obtain ⟨a1, a2, a3, a4, a5, a6, a7, a8⟩ := h
  have walk : ∀ (ks : List Nat) (t : St) (d : Nat), (∃ e ∈ q, e.1 = t ∧ e.2.2.2 ≤ d) → okP R ks → ∃ e ∈ q, e.1 = goP R t ks ∧ e.2.2.2 ≤ d + ks.length := by
    intro ks
    induction ks with
    | nil => intro t d h _; exact h
    | cons k ks ih =>
      intro t d ⟨e, e1, e2, e3⟩ ho
      obtain ⟨hk, ho2⟩ := okP_tl ho
      obtain ⟨j, hj⟩ := List.getElem?_of_mem e1
      have hjl := (List.getElem?_eq_some_iff.mp hj).1
      obtain ⟨e', b1, b2, b3⟩ := a4 j e k (by omega) hj hk
      obtain ⟨y, y1, y2, y3⟩ := ih (nx R t k) (d + 1) ⟨e', b1, by rw [b2, e2], by omega⟩ ho2
      exact ⟨y, y1, y2, by rw [List.length_cons]; omega⟩
  refine ⟨fun y hy => ?_, fun x hx ks ho hg => ?_⟩
  · obtain ⟨y1, y2⟩ := List.mem_filter.mp hy
    exact ⟨of_decide_eq_true y2, a1.2.2.1 y y1⟩
  · obtain ⟨j, hj⟩ := List.getElem?_of_mem hx
    have hjl := (List.getElem?_eq_some_iff.mp hj).1
    obtain ⟨e0, z1, z2, z3⟩ := a5 j x (by omega) hj
    obtain ⟨y, y1, y2, y3⟩ := walk ks x.1 x.2.2.2 ⟨e0, z1, z2, z3⟩ ho
    exact ⟨y, List.mem_filter.mpr ⟨y1, decide_eq_true (by rw [y2]; exact hg)⟩, y3, fun _ => ⟨[], fun k hk => absurd hk List.not_mem_nil, y2, by show y.2.2.2 + 0 ≤ _; omega⟩⟩
end ML3
