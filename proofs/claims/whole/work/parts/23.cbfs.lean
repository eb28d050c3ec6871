/-! ===== the class's search in breadth ===== -/
def bfI (v : Nat) (q : List En) : Nat := q.findIdx (fun e => decide (e.1.1 = v))
def CQ (τ : Wd) (q : List En) : Prop := τ.1 22 3 = nI q.length ∧ (∀ (j : Nat) (e : En), q[j]? = some e → τ.1 24 j = nI (ps e.1) ∧ (0 < j → τ.1 25 j = nI (16 * e.2.1 + e.2.2.1))) ∧ ∀ n, n < 131072 → (seen τ n = true ↔ ∃ e ∈ q, ps e.1 = n)
def CW (τ : Wd) (q : List En) : Prop := ∀ v, v < 100 → (∀ e, bfF v q = some e → τ.1 27 v = nI e.2.2.2 ∧ τ.1 28 v = nI (bfI v q)) ∧ (bfF v q = none → τ.1 27 v = -1)
def cM (m : Nat) (W : Nat → Bool) (q : List En) : Nat := (List.range m).countP (fun v => W v && (bfF v q).isNone)
def CB (τ : Wd) (m : Nat) (W : Nat → Bool) (q : List En) : Prop := CQ τ q ∧ CW τ q ∧ τ.1 26 4 = nI (cM m W q) ∧ ∀ v, v < 100 → τ.1 29 v = if W v = true then 1 else 0
def CFr (σ τ : Wd) : Prop := (∀ a b, ¬ (a = 24 ∨ a = 25 ∨ a = 27 ∨ a = 28 ∨ (a = 22 ∧ b = 3) ∨ (a = 26 ∧ b = 4)) → τ.1 a b = σ.1 a b) ∧ τ.2.2 = σ.2.2 ∧ ∀ a, a ≠ 23 → τ.2.1 a = σ.2.1 a
section CBF
variable {D : Nat} {σ τ τ' : Wd} {Q : Option Value → Wd → Prop} {R : Rk} {s t : St} {q : List En} {i k n m d p r : Nat} {W : Nat → Bool}
theorem CFr.rf : CFr σ σ := ⟨fun _ _ _ => rfl, rfl, fun _ _ => rfl⟩
theorem CFr.tr {a b c : Wd} (h1 : CFr a b) (h2 : CFr b c) : CFr a c := ⟨fun x y h => by rw [h2.1 x y h, h1.1 x y h], by rw [h2.2.1, h1.2.1], fun x h => by rw [h2.2.2 x h, h1.2.2 x h]⟩
theorem ps_inj (hm : m ≤ 100) (hs : vS m s) (ht : vS m t) (h : ps s = ps t) : s = t := by
  obtain ⟨a1, a2, a3, a4, a5⟩ := hs
  obtain ⟨b1, b2, b3, b4, b5⟩ := ht
  obtain ⟨x1, x2, x3, x4⟩ := s
  obtain ⟨y1, y2, y3, y4⟩ := t
  unfold ps at h
  dsimp only at *
  have e1 : x1 = y1 := by omega
  have e2 : x2 = y2 := by omega
  have e3 : x3 = y3 := by omega
  have e4 : x4 = y4 := by omega
  subst e1; subst e2; subst e3; subst e4; rfl
theorem bfF_one {v : Nat} {e : En} : bfF v [e] = if e.1.1 = v then some e else none := by
  unfold bfF
  rw [List.find?_cons]
  by_cases h : e.1.1 = v <;> simp [h]
theorem bfF_add {v : Nat} {e : En} : bfF v (q ++ [e]) = (bfF v q).or (if e.1.1 = v then some e else none) := by
  rw [bfF_app, bfF_one]
theorem bfI_add {v : Nat} {e x : En} (h : bfF v q = some x) : bfI v (q ++ [e]) = bfI v q := by
  unfold bfI
  rw [List.findIdx_append, if_pos]
  unfold bfF at h
  have h1 := List.mem_of_find?_eq_some h
  have h2 := List.find?_some h
  exact List.findIdx_lt_length_of_exists ⟨x, h1, h2⟩
theorem bfI_new {v : Nat} {e : En} (h : bfF v q = none) (he : e.1.1 = v) : bfI v (q ++ [e]) = q.length := by
  unfold bfI
  have h1 : ¬ q.findIdx (fun e => decide (e.1.1 = v)) < q.length := by
    intro hl
    have h2 := List.findIdx_getElem (w := hl)
    unfold bfF at h
    have h3 := List.find?_eq_none.mp h _ (List.getElem_mem hl)
    exact h3 h2
  rw [List.findIdx_append, if_neg h1, List.findIdx_cons]
  simp [he]
theorem cM_add {e : En} (he : e.1.1 < m) : cM m W (q ++ [e]) + (if W e.1.1 = true ∧ bfF e.1.1 q = none then 1 else 0) = cM m W q := by
  unfold cM
  have key : ∀ l : List Nat, l.Nodup → l.countP (fun v => W v && (bfF v (q ++ [e])).isNone) + (if e.1.1 ∈ l ∧ W e.1.1 = true ∧ bfF e.1.1 q = none then 1 else 0) = l.countP (fun v => W v && (bfF v q).isNone) := by
    intro l
    induction l with
    | nil => intro _; simp
    | cons a l ih =>
      intro hd
      obtain ⟨hn, hd2⟩ := List.nodup_cons.mp hd
      have ih2 := ih hd2
      rw [List.countP_cons, List.countP_cons]
      by_cases ha : e.1.1 = a
      · subst ha
        rw [if_neg (fun h => hn h.1)] at ih2
        have h1 : (bfF e.1.1 (q ++ [e])).isNone = false := by rw [bfF_add, if_pos rfl]; cases bfF e.1.1 q <;> rfl
        rw [h1]
        by_cases hw : W e.1.1 = true
        · cases hb : bfF e.1.1 q with
          | none => simp [hw, hb]; omega
          | some x => simp [hw, hb]; omega
        · simp [hw]; omega
      · have h1 : bfF a (q ++ [e]) = bfF a q := by rw [bfF_add, if_neg ha, Option.or_none]
        rw [h1]
        have h2 : (e.1.1 ∈ a :: l ∧ W e.1.1 = true ∧ bfF e.1.1 q = none) ↔ (e.1.1 ∈ l ∧ W e.1.1 = true ∧ bfF e.1.1 q = none) := by
          simp [ha]
        simp only [h2]
        omega
  have h1 := key (List.range m) List.nodup_range
  simpa [he] using h1
theorem CW.add {e : En} (h : CW τ q) (hv : e.1.1 < 100) (ho : ∀ b, b ≠ e.1.1 → τ'.1 27 b = τ.1 27 b ∧ τ'.1 28 b = τ.1 28 b) (hs : (∃ x, bfF e.1.1 q = some x) → τ'.1 27 e.1.1 = τ.1 27 e.1.1 ∧ τ'.1 28 e.1.1 = τ.1 28 e.1.1) (hn : bfF e.1.1 q = none → τ'.1 27 e.1.1 = nI e.2.2.2 ∧ τ'.1 28 e.1.1 = nI q.length) : CW τ' (q ++ [e]) := by
  intro v hv2
  by_cases hve : v = e.1.1
  · subst hve
    cases hb : bfF e.1.1 q with
    | some x =>
      obtain ⟨g1, g2⟩ := hs ⟨x, hb⟩
      rw [g1, g2, bfF_add, hb, bfI_add hb]
      have g3 := (h _ hv).1 x hb
      refine ⟨fun y hy => ?_, fun hy => by cases hy⟩
      have : x = y := by simpa using hy
      rw [← this]; exact g3
    | none =>
      obtain ⟨g1, g2⟩ := hn hb
      rw [bfF_add, hb, if_pos rfl, bfI_new hb rfl]
      refine ⟨fun y hy => ?_, fun hy => by cases hy⟩
      have : e = y := by simpa using hy
      rw [← this]; exact ⟨g1, g2⟩
  · obtain ⟨g1, g2⟩ := ho v hve
    rw [g1, g2, bfF_add, if_neg (fun h => hve h.symm), Option.or_none]
    refine ⟨fun x hx => ?_, (h v hv2).2⟩
    rw [bfI_add hx]
    exact (h v hv2).1 x hx
theorem CQ.add {tt : Wd} (h : CQ τ q) (hm : m ≤ 100) (ht : vS m t) (hs : ∀ n, n < 131072 → seen τ' n = (decide (n = ps t) || seen τ n)) (a0 : τ'.1 22 3 = nI (q.length + 1)) (a1 : τ'.1 24 q.length = nI (ps t)) (a2 : ∀ b, b ≠ q.length → τ'.1 24 b = τ.1 24 b) (b1 : 0 < q.length → τ'.1 25 q.length = nI (16 * p + k)) (b2 : ∀ b, b ≠ q.length → τ'.1 25 b = τ.1 25 b) : CQ τ' (q ++ [(t, p, k, d)]) := by
  refine ⟨by rw [a0]; simp, fun j e hj => ?_, fun n hn => ?_⟩
  · by_cases hlt : j < q.length
    · rw [List.getElem?_append_left hlt] at hj
      rw [a2 _ (by omega), b2 _ (by omega)]
      exact h.2.1 j e hj
    · rw [List.getElem?_append_right (by omega)] at hj
      have hz : j - q.length = 0 := by
        rcases Nat.eq_zero_or_pos (j - q.length) with h | h
        · exact h
        · rw [List.getElem?_eq_none (by simp; omega)] at hj; cases hj
      rw [hz] at hj
      have e1 : (t, p, k, d) = e := by simpa using hj
      have e2 : j = q.length := by omega
      subst e1; subst e2
      exact ⟨a1, b1⟩
  · rw [hs n hn]
    constructor
    · intro hh
      rw [Bool.or_eq_true] at hh
      rcases hh with hh | hh
      · exact ⟨(t, p, k, d), List.mem_append_right _ List.mem_cons_self, (of_decide_eq_true hh).symm⟩
      · obtain ⟨e, h1, h2⟩ := (h.2.2 n hn).mp hh
        exact ⟨e, List.mem_append_left _ h1, h2⟩
    · intro ⟨e, h1, h2⟩
      rw [Bool.or_eq_true]
      rcases List.mem_append.mp h1 with h1 | h1
      · exact Or.inr ((h.2.2 n hn).mpr ⟨e, h1, h2⟩)
      · have e1 : e = (t, p, k, d) := by simpa using h1
        rw [e1] at h2
        exact Or.inl (decide_eq_true h2.symm)
set_option maxHeartbeats 4000000 in
theorem ok_meet {x : Int32} (hm0 : 0 < m) (hm : m ≤ 100) (hB : CB σ m W q) (hV : bfV m q) (ht : vS m t) (hl : (∀ e ∈ q, e.1 ≠ t) → q.length < 60200) (hd : d < 100000) (hdq : ∀ e ∈ q, e.2.2.2 < 100000) (hx : 0 < q.length → x = nI (16 * p + k)) (hin : (∃ e ∈ q, e.1 = t) → Q none σ) (hout : (∀ e ∈ q, e.1 ≠ t) → ∀ τ, CB τ m W (q ++ [(t, p, k, d)]) → CFr σ τ → Q none τ) : Ok (D + 2) mX8_meet [.ref 26, .int (nI (ps t)), .int x, .int (nI d)] σ Q := by
  obtain ⟨hCQ, hCW, hmi, hwa⟩ := hB
  have hpl := ps_lt hm ht
  have hsh : t.1 < 100 := by have := ht.1; omega
  have e1 := ps_sh hm ht
  have hseen := hCQ.2.2 (ps t) hpl
  have hiff : (∃ e ∈ q, ps e.1 = ps t) ↔ ∃ e ∈ q, e.1 = t := ⟨fun ⟨e, h1, h2⟩ => ⟨e, h1, ps_inj hm (hV.2 e h1) ht h2⟩, fun ⟨e, h1, h2⟩ => ⟨e, h1, by rw [h2]⟩⟩
  have hcm := cM_add (W := W) (q := q) (m := m) (e := (t, p, k, d)) (show t.1 < m by have := ht.1; omega)
  have hcl : cM m W q ≤ 100 := by
    unfold cM
    have := List.countP_le_length (p := fun v => W v && (bfF v q).isNone) (l := List.range m)
    rw [List.length_range] at this
    omega
  have after : (∀ e ∈ q, e.1 ≠ t) → ∀ σ1 : Wd, σ1.1 = σ.1 → σ1.2.2 = σ.2.2 → (∀ a, a ≠ 23 → σ1.2.1 a = σ.2.1 a) → (∀ n, n < 131072 → seen σ1 n = (decide (n = ps t) || seen σ n)) → V mX8_meet (D + 2) 12 [some (.ref 26), some (.int (nI (ps t))), some (.int x), some (.int (nI d)), none] [] σ1 Q := by
    intro hne σ1 g1 g2 g3 g4
    have hq := hout hne
    -- the world behind append
    obtain ⟨σ2, hσ2⟩ : ∃ σ2, σ2 = setI (setI (setI σ1 24 q.length (nI (ps t))) 25 q.length x) 22 3 (nI (q.length + 1)) := ⟨_, rfl⟩
    have k1 : ∀ a b, ¬ (a = 24 ∨ a = 25 ∨ (a = 22 ∧ b = 3)) → σ2.1 a b = σ.1 a b := fun a b h => by
      rw [hσ2, setI_ne (by omega), setI_ne (by omega), setI_ne (by omega), g1]
    have hCQ2 : ∀ τ' : Wd, (∀ a b, a = 22 ∨ a = 24 ∨ a = 25 → τ'.1 a b = σ2.1 a b) → τ'.2 = σ2.2 → CQ τ' (q ++ [(t, p, k, d)]) := by
      intro τ' f1 f2
      refine CQ.add (tt := σ) hCQ hm ht (fun n hn => ?_) ?_ ?_ ?_ ?_ ?_
      · have : seen τ' n = seen σ1 n := by unfold seen; rw [f2, hσ2]; rfl
        rw [this]; exact g4 n hn
      · rw [f1 _ _ (by omega), hσ2, setI_same]
      · rw [f1 _ _ (by omega), hσ2, setI_ne (by omega), setI_ne (by omega), setI_same]
      · intro b hb; rw [f1 _ _ (by omega), hσ2, setI_ne (by omega), setI_ne (by omega), setI_ne (by omega), g1]
      · intro h0; rw [f1 _ _ (by omega), hσ2, setI_ne (by omega), setI_same, hx h0]
      · intro b hb; rw [f1 _ _ (by omega), hσ2, setI_ne (by omega), setI_ne (by omega), setI_ne (by omega), g1]
    have hold : (∃ y, bfF t.1 q = some y) → Q none σ2 := by
      intro hy
      refine hq σ2 ⟨hCQ2 σ2 (fun _ _ _ => rfl) rfl, ?_, ?_, fun v hv => by rw [k1 _ _ (by omega)]; exact hwa v hv⟩ ⟨fun a b h => k1 a b (by omega), by rw [hσ2]; exact g2, fun a ha => by rw [hσ2]; exact g3 a ha⟩
      · exact CW.add hCW hsh (fun b _ => ⟨k1 _ _ (by omega), k1 _ _ (by omega)⟩) (fun _ => ⟨k1 _ _ (by omega), k1 _ _ (by omega)⟩) (fun hb => by obtain ⟨y, hy⟩ := hy; rw [hb] at hy; cases hy)
      · rw [k1 _ _ (by omega), hmi]
        obtain ⟨y, hy⟩ := hy
        rw [if_neg (fun h => by rw [hy] at h; cases h.2)] at hcm
        rw [← hcm]; rfl
    have hnew : bfF t.1 q = none → Q none (setI (setI (setI σ2 27 t.1 (nI d)) 28 t.1 (nI q.length)) 26 4 (nI (cM m W q) - (if W t.1 = true then 1 else 0))) := by
      intro hy
      refine hq _ ⟨hCQ2 _ (fun a b h => by rw [setI_ne (by omega), setI_ne (by omega), setI_ne (by omega)]) rfl, ?_, ?_, fun v hv => by rw [setI_ne (by omega), setI_ne (by omega), setI_ne (by omega), k1 _ _ (by omega)]; exact hwa v hv⟩ ⟨fun a b h => by rw [setI_ne (by omega), setI_ne (by omega), setI_ne (by omega), k1 a b (by omega)], by show σ2.2.2 = _; rw [hσ2]; exact g2, fun a ha => by show σ2.2.1 a = _; rw [hσ2]; exact g3 a ha⟩
      · refine CW.add hCW hsh (fun b hb => ⟨?_, ?_⟩) (fun hz => by obtain ⟨y, hz⟩ := hz; rw [hy] at hz; cases hz) (fun _ => ⟨?_, ?_⟩)
        · have hb2 : b ≠ t.1 := hb
          rw [setI_ne (by omega), setI_ne (by omega), setI_ne (by omega), k1 _ _ (by omega)]
        · have hb2 : b ≠ t.1 := hb
          rw [setI_ne (by omega), setI_ne (by omega), setI_ne (by omega), k1 _ _ (by omega)]
        · rw [setI_ne (by omega), setI_ne (by omega), setI_same]
        · rw [setI_ne (by omega), setI_same]
      · rw [setI_same]
        by_cases hw : W t.1 = true
        · rw [if_pos ⟨hw, hy⟩] at hcm
          rw [if_pos hw, ← hcm, nI_pred]
        · rw [if_neg (fun h => hw h.1)] at hcm
          rw [if_neg hw, ← hcm, show (0 : Int32) = nI 0 from rfl, pk_sub (by omega)]
          rfl
    refine v_aload_n dX8_meet_12 rfl ?_
    refine v_getR (q := 22) dX8_meet_13 fl_RX8_41 rfl rfl ?_
    refine v_iload_n dX8_meet_16 rfl ?_
    refine v_iload_n dX8_meet_17 rfl ?_
    refine v_callV2 dX8_meet_18 mv_RX8_104 rfl rfl (Nat.le_of_ble_eq_true rfl) ?_
    refine ok_rowsAppend (c := q.length) (by rw [g1]; exact hCQ.1) (hl hne) ?_
    rw [← hσ2]
    show V _ _ _ _ _ _ _
    refine v_iload_n dX8_meet_21 rfl ?_
    refine v_callS1 dX8_meet_22 ms_RX8_108 (Nat.le_of_ble_eq_true rfl) ?_
    refine ok_shownIn ?_
    rw [e1]
    show V _ _ _ _ (_ :: _) _ _
    refine v_istore dX8_meet_25 (Nat.le_of_ble_eq_true rfl) rfl ?_
    refine v_iload dX8_meet_27 rfl ?_
    refine v_bipush dX8_meet_29 ?_
    refine v_icmp_ge dX8_meet_31 (fun zc31 => ?_) (fun zc31 => ?_)
    · exact absurd zc31 (nI_ge (b := 100) (by omega) (by omega))
    · refine v_aload_n dX8_meet_34 rfl ?_
      refine v_getR (q := 27) dX8_meet_35 fl_RX8_9 rfl rfl ?_
      refine v_iload dX8_meet_38 rfl ?_
      refine v_iaload dX8_meet_40 rfl (by exact vp_in_nI (by omega) (by omega)) ?_
      rw [nI_clamp (by omega), k1 _ _ (by omega)]
      refine v_iconst dX8_meet_41 ?_
      refine v_icmp_ne dX8_meet_42 (fun zc42 => ?_) (fun zc42 => ?_)
      · have hfnd : ∃ y, bfF t.1 q = some y := by
          cases hb : bfF t.1 q with
          | some y => exact ⟨y, rfl⟩
          | none => exact absurd ((hCW _ hsh).2 hb) zc42
        refine v_return dX8_meet_85 rfl ?_
        first | exact hold hfnd | exact hnew hfnd
      · have hfnd : bfF t.1 q = none := by
          cases hb : bfF t.1 q with
          | none => rfl
          | some y =>
            have h1 := ((hCW _ hsh).1 y hb).1
            have h2 := hdq y (List.mem_of_find?_eq_some hb)
            rw [zc42, iz_nI, show (-1 : Int32) = iz (-1) from rfl, iz_eq (by omega) (by omega) (by omega) (by omega)] at h1
            omega
        refine v_aload_n dX8_meet_45 rfl ?_
        refine v_getR (q := 27) dX8_meet_46 fl_RX8_9 rfl rfl ?_
        refine v_iload dX8_meet_49 rfl ?_
        refine v_iload_n dX8_meet_51 rfl ?_
        refine v_iastore dX8_meet_52 rfl (by exact vp_in_nI (by omega) (by omega)) ?_
        rw [nI_clamp (by omega)]
        refine v_aload_n dX8_meet_53 rfl ?_
        refine v_getR (q := 28) dX8_meet_54 fl_RX8_15 rfl rfl ?_
        refine v_iload dX8_meet_57 rfl ?_
        refine v_aload_n dX8_meet_59 rfl ?_
        refine v_getR (q := 22) dX8_meet_60 fl_RX8_41 rfl rfl ?_
        refine v_getI dX8_meet_63 fl_RX8_87 rfl ?_
        rw [setI_ne (by omega), hσ2, setI_same, ← hσ2]
        refine v_iconst dX8_meet_66 ?_
        refine v_isub dX8_meet_67 ?_
        rw [nI_pred]
        refine v_iastore dX8_meet_68 rfl (by exact vp_in_nI (by omega) (by omega)) ?_
        rw [nI_clamp (by omega)]
        refine v_aload_n dX8_meet_69 rfl ?_
        refine v_dup dX8_meet_70 rfl ?_
        refine v_getI dX8_meet_71 fl_RX8_21 rfl ?_
        rw [setI_ne (by omega), setI_ne (by omega), k1 _ _ (by omega), hmi]
        refine v_aload_n dX8_meet_74 rfl ?_
        refine v_getR (q := 29) dX8_meet_75 fl_RX8_18 rfl rfl ?_
        refine v_iload dX8_meet_78 rfl ?_
        refine v_iaload dX8_meet_80 rfl (by exact vp_in_nI (by omega) (by omega)) ?_
        rw [nI_clamp (by omega), setI_ne (by omega), setI_ne (by omega), k1 _ _ (by omega), hwa _ hsh]
        refine v_isub dX8_meet_81 ?_
        refine v_putI dX8_meet_82 fp_RX8_21 rfl ?_
        refine v_return dX8_meet_85 rfl ?_
        first | exact hold hfnd | exact hnew hfnd
  refine ok_enter rfl (Nat.le_of_ble_eq_true rfl) ?_
  refine v_aload_n dX8_meet_0 rfl ?_
  refine v_getR (q := 22) dX8_meet_1 fl_RX8_41 rfl rfl ?_
  refine v_iload_n dX8_meet_4 rfl ?_
  refine v_callV1 dX8_meet_5 mv_RX8_100 rfl rfl (Nat.le_of_ble_eq_true rfl) ?_
  refine ok_mark hpl (fun hs1 => ?_) (fun hs1 σ1 g1 g2 g3 g4 => ?_)
  · show V _ _ _ _ (_ :: _) _ _
    refine v_if_ne dX8_meet_8 (fun z => absurd rfl z) (fun _ => ?_)
    refine v_return dX8_meet_11 rfl ?_
    exact hin (hiff.mp (hseen.mp hs1))
  show V _ _ _ _ (_ :: _) _ _
  refine v_if_ne dX8_meet_8 (fun zc8 => ?_) (fun zc8 => ?_)
  · exact after (fun e he h2 => by have := hseen.mpr (hiff.mpr ⟨e, he, h2⟩); rw [hs1] at this; cases this) σ1 g1 g2 g3 g4
  · exact absurd zc8 (by decide)
/-- where the heads of a level are -/
def lvl (q : List En) (h L E : Nat) : Prop := h ≤ E ∧ E ≤ q.length ∧ (∀ (j : Nat) (e : En), q[j]? = some e → h ≤ j → j < E → e.2.2.2 + 1 = L) ∧ ∀ (j : Nat) (e : En), q[j]? = some e → E ≤ j → e.2.2.2 = L
/-- what the search leaves -/
def SFin (τ : Wd) (R : Rk) (s : St) (W : Nat → Bool) : Prop := ∃ q : List En, q <+: bfAll R s ∧ 0 < q.length ∧ bfV R.2.2.2.1 q ∧ bfW R.2.2.2.2.length q ∧ CB τ R.2.2.2.1 W q ∧ ∀ v, v < R.2.2.2.1 → W v = true → bfF v q = bfF v (bfAll R s)
def SFr (σ τ : Wd) : Prop := (∀ a b, ¬ (a = 24 ∨ a = 25 ∨ a = 27 ∨ a = 28 ∨ (a = 22 ∧ b = 3) ∨ (a = 22 ∧ b = 4) ∨ (a = 26 ∧ b = 4)) → τ.1 a b = σ.1 a b) ∧ τ.1 22 4 = 0 ∧ τ.2.2 = σ.2.2 ∧ ∀ a, a ≠ 23 → τ.2.1 a = σ.2.1 a
theorem bfW.dist (hq : q.length ≤ 60200) (h : bfW n q) : ∀ e ∈ q, e.2.2.2 < 60201 := by
  intro e he
  obtain ⟨j, hj⟩ := List.getElem?_of_mem he
  have h1 := (h j e hj).1
  have h2 := (List.getElem?_eq_some_iff.mp hj).1
  omega
theorem CB.fresh (hs : ∀ n, n < 131072 → seen τ n = false) (h1 : τ.1 22 3 = 0) (h2 : ∀ v, v < 100 → τ.1 27 v = -1) (h3 : τ.1 26 4 = nI ((List.range m).countP W)) (h4 : ∀ v, v < 100 → τ.1 29 v = if W v = true then 1 else 0) : CB τ m W [] := by
  refine ⟨⟨h1, fun j e hj => by simp at hj, fun n hn => ?_⟩, fun v hv => ⟨fun e he => absurd he (by simp [bfF]), fun _ => h2 v hv⟩, ?_, h4⟩
  · rw [hs n hn]
    constructor
    · intro h; cases h
    · intro ⟨e, h, _⟩; cases h
  · rw [h3]
    unfold cM
    congr 2
    funext v
    simp [bfF]
theorem mem_nx {t : St} {q : List En} (h : ∃ e ∈ q, e.1 = t) : ∃ e ∈ q, e.1 = t := h
set_option maxHeartbeats 4000000 in
theorem ok_spread (hr : vIsR r) (hR : RepR σ r R) (hv : vR 9 R) (hm0 : 0 < R.2.2.2.1) (hs : vS R.2.2.2.1 s) (hmi : σ.1 26 4 = nI ((List.range R.2.2.2.1).countP W)) (hwa : ∀ v, v < 100 → σ.1 29 v = if W v = true then 1 else 0) (hQ : ∀ τ, SFr σ τ → SFin τ R s W → Q none τ) : Ok (D + 4) mX8_spread [.ref 26, .ref r, .int (nI (ps s))] σ Q := by
  have hvv : R.2.2.2.1 ≤ 100 ∧ R.2.2.2.2.length ≤ 9 := by
    rcases hv with e | ⟨v1, v2, v3, v4, v5, v6, v7, v8, v9⟩
    · subst e; exact absurd hm0 (by decide)
    · exact ⟨v7, v8⟩
  obtain ⟨hm, hnk⟩ := hvv
  have hpl := nPl_le hm
  have hr12 : r + 4 < 13 ∧ 3 ≤ r := by rcases hr with rfl | rfl <;> omega
  -- the world behind the fills
  obtain ⟨σ0, hσ0⟩ : ∃ σ0, σ0 = fillI (setI (setI (fillL σ 23 2048 0) 22 3 0) 22 4 0) 27 100 (-1) := ⟨_, rfl⟩
  have k0 : ∀ a b, ¬ (a = 27 ∨ (a = 22 ∧ b = 3) ∨ (a = 22 ∧ b = 4)) → σ0.1 a b = σ.1 a b := fun a b h => by
    rw [hσ0, fillI_o (by omega), setI_ne (by omega), setI_ne (by omega)]; rfl
  have hB0 : CB σ0 R.2.2.2.1 W [] := by
    refine CB.fresh (fun n hn => ?_) ?_ (fun v hv => by rw [hσ0, fillI_i hv]) (by rw [k0 _ _ (by omega)]; exact hmi) (fun v hv => by rw [k0 _ _ (by omega)]; exact hwa v hv)
    · unfold seen
      rw [hσ0]
      show ((if 23 = 23 ∧ n / 64 < 2048 then (0 : Int64) else σ.2.1 23 (n / 64)) : Int64).toBitVec.getLsbD (n % 64) = false
      rw [if_pos ⟨rfl, by omega⟩]
      simp
    · rw [hσ0, fillI_o (by omega), setI_ne (by omega), setI_same]
  have hfin : ∀ τ, CFr σ0 τ → SFr σ τ := by
    intro τ h
    refine ⟨fun a b hab => by rw [h.1 a b (by omega), k0 a b (by omega)], ?_, ?_, fun a ha => ?_⟩
    · rw [h.1 _ _ (by omega), hσ0, fillI_o (by omega), setI_same]
    · rw [h.2.1, hσ0]; rfl
    · rw [h.2.2 a ha, hσ0]
      show (fun b => if a = 23 ∧ b < 2048 then (0 : Int64) else σ.2.1 a b) = σ.2.1 a
      funext b
      rw [if_neg (fun e => ha e.1)]
  have keep : ∀ τ, CFr σ0 τ → RepR τ r R := fun τ h => hR.kept (fun a b h1 h2 => by rw [h.1 a b (by omega), k0 a b (by omega)])
  -- the inner loop: over the keys
  have inner : ∀ j k τ (q : List En) (i L E : Nat) (x6 : Int32), k + j = R.2.2.2.2.length → i < q.length → bfV R.2.2.2.1 q → bfW R.2.2.2.2.length q → (q.getD i en0).2.2.2 + 1 = L → x6 = nI (ps (q.getD i en0).1) → CFr σ0 τ → CB τ R.2.2.2.1 W (bfRow R q i k) →
      (∀ τ', CFr σ0 τ' → CB τ' R.2.2.2.1 W (bfRow R q i R.2.2.2.2.length) → V mX8_spread (D + 4) 130 [some (.ref 26), some (.ref r), some (.int (nI (ps s))), some (.int (nI L)), some (.int (nI E)), some (.int (nI i)), some (.int x6), some (.int (nI R.2.2.2.2.length))] [] τ' Q) →
      V mX8_spread (D + 4) 95 [some (.ref 26), some (.ref r), some (.int (nI (ps s))), some (.int (nI L)), some (.int (nI E)), some (.int (nI i)), some (.int x6), some (.int (nI k))] [] τ Q := by
    intro j
    induction j with
    | zero =>
      intro k τ q i L E x6 hk hi hV hW hL hx6 hF hB hnext
      have e : k = R.2.2.2.2.length := by omega
      subst e
      have h4 := (keep τ hF).2.2.2.2.1
      refine v_iload dX8_spread_95 rfl ?_
      refine v_aload_n dX8_spread_97 rfl ?_
      refine v_getI dX8_spread_98 fl_RX8_93 hr.lay ?_
      rw [h4]
      refine v_icmp_ge dX8_spread_101 (fun zc101 => ?_) (fun zc101 => ?_)
      · exact hnext τ hF hB
      · exact absurd (nI_le (Nat.le_refl _) (by omega)) zc101
    | succ j ih =>
      intro k τ q i L E x6 hk hi hV hW hL hx6 hF hB hnext
      have hRR := keep τ hF
      have h4 := hRR.2.2.2.2.1
      have hkl : k < R.2.2.2.2.length := by omega
      have hRV := bfRow_V hv hi hV k (by omega)
      have hRW := bfW_Row hW hi k (by omega)
      have hil : i < (bfRow R q i k).length := Nat.lt_of_lt_of_le hi (bfRow_pre k).length_le
      have hgd : (bfRow R q i k).getD i en0 = q.getD i en0 := pre_getD (bfRow_pre k) hi
      have hrl : (bfRow R q i k).length ≤ 60200 := Nat.le_trans (bfV.len hm0 hRV) hpl
      have hvi : vS R.2.2.2.1 (q.getD i en0).1 := hV.2 _ (getD_mem hi)
      have hti : vS R.2.2.2.1 (nx R (q.getD i en0).1 k) := nx_v hv hkl hvi
      have hky : R.2.2.2.2[k]? = some (R.2.2.2.2.getD k (0, 0, 0, 0)) := by rw [List.getD, List.getElem?_eq_getElem hkl]; rfl
      have hstep : bfRow R q i (k + 1) = bfK R (bfRow R q i k) i k := rfl
      have hdist := hRW.dist hrl
      have hdi : (q.getD i en0).2.2.2 < 60201 := by rw [← hgd]; exact hdist _ (getD_mem hil)
      subst hx6
      have hnote : (nI i <<< ((4 : Int32) &&& 31)) ||| nI k = nI (16 * i + k) := by
        rw [pk_shlN _ 4 rfl (by omega), Nat.mul_comm, nb_add 4 (by omega)]
      have fin : ∀ τ', CFr σ0 τ' → CB τ' R.2.2.2.1 W (bfRow R q i (k + 1)) → V mX8_spread (D + 4) 124 [some (.ref 26), some (.ref r), some (.int (nI (ps s))), some (.int (nI L)), some (.int (nI E)), some (.int (nI i)), some (.int (nI (ps (q.getD i en0).1))), some (.int (nI k))] [] τ' Q := by
        intro τ' f1 f2
        refine v_iinc dX8_spread_124 rfl (Nat.le_of_ble_eq_true rfl) rfl ?_
        refine v_goto dX8_spread_127 ?_
        rw [nI_1]
        exact ih (k + 1) τ' q i L E _ (by omega) hi hV hW hL rfl f1 f2 hnext
      refine v_iload dX8_spread_95 rfl ?_
      refine v_aload_n dX8_spread_97 rfl ?_
      refine v_getI dX8_spread_98 fl_RX8_93 hr.lay ?_
      rw [h4]
      refine v_icmp_ge dX8_spread_101 (fun zc101 => ?_) (fun zc101 => ?_)
      · exact absurd zc101 (nI_ge (by omega) (by omega))
      · refine v_aload_n dX8_spread_104 rfl ?_
        refine v_aload_n dX8_spread_105 rfl ?_
        refine v_iload dX8_spread_106 rfl ?_
        refine v_iload dX8_spread_108 rfl ?_
        refine v_callV2 dX8_spread_110 mv_RX8_96 hr.lay rfl (Nat.le_of_ble_eq_true rfl) ?_
        refine ok_afterStroke hr hRR (Nat.le_refl 9) hv hvi hky ?_
        rw [show rk_str R (q.getD i en0).1 (R.2.2.2.2.getD k (0, 0, 0, 0)) = nx R (q.getD i en0).1 k from rfl]
        show V _ _ _ _ (_ :: _) _ _
        refine v_iload dX8_spread_113 rfl ?_
        refine v_iconst dX8_spread_115 ?_
        refine v_ishl dX8_spread_116 ?_
        refine v_iload dX8_spread_117 rfl ?_
        refine v_ior dX8_spread_119 ?_
        rw [hnote]
        refine v_iload_n dX8_spread_120 rfl ?_
        refine v_callV3 dX8_spread_121 mv_RX8_82 rfl rfl (Nat.le_of_ble_eq_true rfl) ?_
        refine ok_meet (q := bfRow R q i k) (p := i) (k := k) hm0 hm hB hRV hti (fun hne => ?_) (by omega) (fun e he => by have := hdist e he; omega) (fun _ => rfl) (fun hin => ?_) (fun hout τ' hB' hF' => ?_)
        · have h9 := bfV.len hm0 (bfK_V hv hkl hil hRV)
          rcases bfK_cases (R := R) (q := bfRow R q i k) (i := i) (k := k) with ⟨-, e2, he2, he3⟩ | ⟨e, -⟩
          · rw [hgd] at he3; exact absurd he3 (hne e2 he2)
          · rw [e] at h9; simp at h9; omega
        · show V _ _ _ _ _ _ _
          refine fin τ hF ?_
          rw [hstep]
          rcases bfK_cases (R := R) (q := bfRow R q i k) (i := i) (k := k) with ⟨e, -⟩ | ⟨-, hne⟩
          · rw [e]; exact hB
          · rw [hgd] at hne
            obtain ⟨e2, h1, h2⟩ := hin
            exact absurd h2 (hne e2 h1)
        show V _ _ _ _ _ _ _
        refine fin τ' (hF.tr hF') ?_
        rw [hstep]
        rcases bfK_cases (R := R) (q := bfRow R q i k) (i := i) (k := k) with ⟨-, e2, he2, he3⟩ | ⟨e, -⟩
        · rw [hgd] at he3; exact absurd he3 (hout e2 he2)
        · rw [e, hgd, hL]; exact hB'
  -- the outer loop: over the heads
  have outer : ∀ f i τ (q : List En) (L E : Nat) (x6 x7 : Option Value), 60200 < f + i → i ≤ q.length → 0 < q.length → bfV R.2.2.2.1 q → bfW R.2.2.2.2.length q → lvl q i L E → bfRun R f i q = bfAll R s → CFr σ0 τ → CB τ R.2.2.2.1 W q →
      V mX8_spread (D + 4) 30 [some (.ref 26), some (.ref r), some (.int (nI (ps s))), some (.int (nI L)), some (.int (nI E)), some (.int (nI i)), x6, x7] [] τ Q := by
    intro f
    induction f with
    | zero =>
      intro i τ q L E x6 x7 hf hi h0 hV
      exact absurd (Nat.le_trans (bfV.len hm0 hV) hpl) (by omega)
    | succ f ih =>
      intro i τ q L E x6 x7 hf hi h0 hV hW hlv hrun hF hB
      have hql := Nat.le_trans (bfV.len hm0 hV) hpl
      have hcnt := hB.1.1
      have hmis := hB.2.2.1
      have hcl : cM R.2.2.2.1 W q ≤ 100 := by
        unfold cM
        have := List.countP_le_length (p := fun v => W v && (bfF v q).isNone) (l := List.range R.2.2.2.1)
        rw [List.length_range] at this
        omega
      have hpre : q <+: bfAll R s := by rw [← hrun]; exact bfRun_pre _ _ _
      have hall : ¬ i < q.length → q = bfAll R s := by
        intro hlt
        rw [← hrun]
        show _ = if i < q.length then _ else _
        rw [if_neg hlt]
      have hend : (¬ i < q.length ∨ cM R.2.2.2.1 W q = 0) → Q none τ := by
        intro hor
        refine hQ τ (hfin τ hF) ⟨q, hpre, h0, hV, hW, hB, fun v hv2 hwv => ?_⟩
        rcases hor with h | h
        · rw [hall h]
        · unfold cM at h
          rw [List.countP_eq_zero] at h
          have h2 := h v (List.mem_range.mpr hv2)
          cases hb : bfF v q with
          | some e => exact (bfF_pre hpre hb).symm
          | none => simp [hwv, hb] at h2
      by_cases hlt : i < q.length
      · have hrun2 : bfRun R f (i + 1) (bfRow R q i R.2.2.2.2.length) = bfAll R s := by
          rw [← hrun]
          show _ = if i < q.length then _ else _
          rw [if_pos hlt]
        have hent : q[i]? = some (q.getD i en0) := by rw [List.getD, List.getElem?_eq_getElem hlt]; rfl
        have hst := (hB.1.2.1 i _ hent).1
        have hRV := bfRow_V hv hlt hV _ (Nat.le_refl _)
        have hRW := bfW_Row hW hlt _ (Nat.le_refl _)
        have hpre2 := bfRow_pre (R := R) (q := q) (i := i) R.2.2.2.2.length
        have hpl2 := hpre2.length_le
        -- levels of what a row adds
        have hadd : ∀ k (j : Nat) (e : En), (bfRow R q i k)[j]? = some e → q.length ≤ j → e.2.2.2 = (q.getD i en0).2.2.2 + 1 := by
          intro k
          induction k with
          | zero =>
            intro j e hj hjl
            have := (List.getElem?_eq_some_iff.mp hj).1
            have h9 : (bfRow R q i 0).length = q.length := rfl
            omega
          | succ k ihk =>
            intro j e hj hjl
            have hgd : (bfRow R q i k).getD i en0 = q.getD i en0 := pre_getD (bfRow_pre k) hlt
            have hs1 : bfRow R q i (k + 1) = bfK R (bfRow R q i k) i k := rfl
            rw [hs1] at hj
            rcases bfK_cases (R := R) (q := bfRow R q i k) (i := i) (k := k) with ⟨e1, -⟩ | ⟨e1, -⟩
            · rw [e1] at hj; exact ihk j e hj hjl
            · rw [e1] at hj
              by_cases hjk : j < (bfRow R q i k).length
              · rw [List.getElem?_append_left hjk] at hj
                exact ihk j e hj hjl
              · rw [List.getElem?_append_right (by omega)] at hj
                have hz : j - (bfRow R q i k).length = 0 := by
                  rcases Nat.eq_zero_or_pos (j - (bfRow R q i k).length) with h | h
                  · exact h
                  · rw [List.getElem?_eq_none (by simp; omega)] at hj; cases hj
                rw [hz, hgd] at hj
                have e2 : (nx R (q.getD i en0).1 k, i, k, (q.getD i en0).2.2.2 + 1) = e := by simpa using hj
                rw [← e2]
        have body : ∀ L' E', lvl q i L' E' → i < E' → V mX8_spread (D + 4) 78 [some (.ref 26), some (.ref r), some (.int (nI (ps s))), some (.int (nI L')), some (.int (nI E')), some (.int (nI i)), x6, x7] [] τ Q := by
          intro L' E' hl' hiE
          have hL' : (q.getD i en0).2.2.2 + 1 = L' := hl'.2.2.1 i _ hent (Nat.le_refl _) hiE
          have hl2 : lvl (bfRow R q i R.2.2.2.2.length) (i + 1) L' E' := by
            refine ⟨by omega, by have := hl'.2.1; omega, fun j e hj h1 h2 => ?_, fun j e hj h1 => ?_⟩
            · have hjq : j < q.length := by have := hl'.2.1; omega
              obtain ⟨t, ht⟩ := hpre2
              rw [← ht, List.getElem?_append_left hjq] at hj
              exact hl'.2.2.1 j e hj (by omega) h2
            · by_cases hjq : j < q.length
              · obtain ⟨t, ht⟩ := hpre2
                rw [← ht, List.getElem?_append_left hjq] at hj
                exact hl'.2.2.2 j e hj h1
              · rw [hadd _ j e hj (by omega)]; exact hL'
          have next : ∀ τ', CFr σ0 τ' → CB τ' R.2.2.2.1 W (bfRow R q i R.2.2.2.2.length) → V mX8_spread (D + 4) 130 [some (.ref 26), some (.ref r), some (.int (nI (ps s))), some (.int (nI L')), some (.int (nI E')), some (.int (nI i)), some (.int (nI (ps (q.getD i en0).1))), some (.int (nI R.2.2.2.2.length))] [] τ' Q := by
            intro τ' g1 g2
            refine v_iinc dX8_spread_130 rfl (Nat.le_of_ble_eq_true rfl) rfl ?_
            refine v_goto dX8_spread_133 ?_
            rw [nI_1]
            exact ih (i + 1) τ' _ L' E' _ _ (by omega) (by omega) (by omega) hRV hRW hl2 hrun2 g1 g2
          have hin := inner R.2.2.2.2.length 0 τ q i L' E' (nI (ps (q.getD i en0).1)) (by omega) hlt hV hW hL' rfl hF hB next
          refine v_aload_n dX8_spread_78 rfl ?_
          refine v_getR (q := 22) dX8_spread_79 fl_RX8_41 rfl rfl ?_
          refine v_getR (q := 24) dX8_spread_82 fl_RX8_90 rfl rfl ?_
          refine v_iload dX8_spread_85 rfl ?_
          refine v_callS2 dX8_spread_87 ms_RX8_68 (Nat.le_of_ble_eq_true rfl) ?_
          refine ok_at rfl (by decide) ?_
          rw [vAt_nI (by omega) (by omega), hst]
          show V _ _ _ _ (_ :: _) _ _
          refine v_istore dX8_spread_90 (Nat.le_of_ble_eq_true rfl) rfl ?_
          refine v_iconst dX8_spread_92 ?_
          refine v_istore dX8_spread_93 (Nat.le_of_ble_eq_true rfl) rfl ?_
          exact hin
        refine v_iload dX8_spread_30 rfl ?_
        refine v_ldc dX8_spread_32 cn_RX8_86 ?_
        refine v_icmp_ge dX8_spread_34 (fun zc34 => ?_) (fun zc34 => ?_)
        · exact absurd zc34 (nI_ge (b := 60200) (by omega) (by omega))
        · refine v_iload dX8_spread_37 rfl ?_
          refine v_aload_n dX8_spread_39 rfl ?_
          refine v_getR (q := 22) dX8_spread_40 fl_RX8_41 rfl rfl ?_
          refine v_getI dX8_spread_43 fl_RX8_87 rfl ?_
          rw [hcnt]
          refine v_icmp_ge dX8_spread_46 (fun zc46 => ?_) (fun zc46 => ?_)
          · exact absurd zc46 (nI_ge hlt (by omega))
          · refine v_aload_n dX8_spread_49 rfl ?_
            refine v_getI dX8_spread_50 fl_RX8_21 rfl ?_
            rw [hmis]
            refine v_if_gt dX8_spread_53 (fun zc53 => ?_) (fun zc53 => ?_)
            · refine v_iload dX8_spread_59 rfl ?_
              refine v_iload dX8_spread_61 rfl ?_
              refine v_icmp_ne dX8_spread_63 (fun zc63 => ?_) (fun zc63 => ?_)
              · rw [nI_eq (by omega) (by have := hlv.2.1; omega)] at zc63
                first | (exact body L E hlv (by have := hlv.1; omega)) | (rw [nI_1]; refine body (L + 1) q.length ⟨by omega, Nat.le_refl _, fun j e hj h1 h2 => by rw [hlv.2.2.2 j e hj (by omega)], fun j e hj h1 => absurd (List.getElem?_eq_some_iff.mp hj).1 (by omega)⟩ hlt)
              · rw [nI_eq (by omega) (by have := hlv.2.1; omega)] at zc63
                refine v_iinc dX8_spread_66 rfl (Nat.le_of_ble_eq_true rfl) rfl ?_
                refine v_aload_n dX8_spread_69 rfl ?_
                refine v_getR (q := 22) dX8_spread_70 fl_RX8_41 rfl rfl ?_
                refine v_getI dX8_spread_73 fl_RX8_87 rfl ?_
                rw [hcnt]
                refine v_istore dX8_spread_76 (Nat.le_of_ble_eq_true rfl) rfl ?_
                first | (exact body L E hlv (by have := hlv.1; omega)) | (rw [nI_1]; refine body (L + 1) q.length ⟨by omega, Nat.le_refl _, fun j e hj h1 h2 => by rw [hlv.2.2.2 j e hj (by omega)], fun j e hj h1 => absurd (List.getElem?_eq_some_iff.mp hj).1 (by omega)⟩ hlt)
            · rw [show (0 : Int32) = nI 0 from rfl, nI_ltI (by omega) (by omega)] at zc53
              refine v_goto dX8_spread_56 ?_
              refine v_return dX8_spread_136 rfl ?_
              exact hend (Or.inr (by omega))
      · have hlt2 := hlt
        refine v_iload dX8_spread_30 rfl ?_
        refine v_ldc dX8_spread_32 cn_RX8_86 ?_
        refine v_icmp_ge dX8_spread_34 (fun zc34 => ?_) (fun zc34 => ?_)
        · refine v_return dX8_spread_136 rfl ?_
          exact hend (Or.inl hlt)
        · refine v_iload dX8_spread_37 rfl ?_
          refine v_aload_n dX8_spread_39 rfl ?_
          refine v_getR (q := 22) dX8_spread_40 fl_RX8_41 rfl rfl ?_
          refine v_getI dX8_spread_43 fl_RX8_87 rfl ?_
          rw [hcnt]
          refine v_icmp_ge dX8_spread_46 (fun zc46 => ?_) (fun zc46 => ?_)
          · refine v_return dX8_spread_136 rfl ?_
            exact hend (Or.inl hlt)
          · exact absurd (nI_le (by omega) (by omega)) zc46
  have hV0 : bfV R.2.2.2.1 ([] : List En) := ⟨by simp, fun e he => by cases he⟩
  have hV1 : bfV R.2.2.2.1 [((s, 0, 0, 0) : En)] := ⟨by simp, fun e he => by have : e = (s, 0, 0, 0) := (by simpa using he); rw [this]; exact hs⟩
  have hW1 : bfW R.2.2.2.2.length [((s, 0, 0, 0) : En)] := by
    intro j e hj
    match j, hj with
    | 0, hj => have : (s, 0, 0, 0) = e := by simpa using hj
               subst this
               exact ⟨Nat.le_refl _, fun h => absurd h (by omega)⟩
    | j + 1, hj => simp at hj
  have hl1 : lvl [((s, 0, 0, 0) : En)] 0 1 1 := by
    refine ⟨by omega, by simp, fun j e hj h1 h2 => ?_, fun j e hj h1 => ?_⟩
    · have e0 : j = 0 := by omega
      subst e0
      have : (s, 0, 0, 0) = e := by simpa using hj
      rw [← this]
    · have := (List.getElem?_eq_some_iff.mp hj).1
      simp at this
      omega
  have hmeet : ∀ τ, CB τ R.2.2.2.1 W ([] ++ [((s, 0, 0, 0) : En)]) → CFr σ0 τ → V mX8_spread (D + 4) 22 [some (.ref 26), some (.ref r), some (.int (nI (ps s))), none, none, none, none, none] [] τ Q := by
    intro τ g1 g2
    have hres := fun y6 y7 => outer 60300 0 τ [((s, 0, 0, 0) : En)] 1 1 y6 y7 (by omega) (Nat.zero_le _) (by simp) hV1 hW1 hl1 rfl g2 g1
    refine v_iconst dX8_spread_22 ?_
    refine v_istore_n dX8_spread_23 (Nat.le_of_ble_eq_true rfl) rfl ?_
    refine v_iconst dX8_spread_24 ?_
    refine v_istore dX8_spread_25 (Nat.le_of_ble_eq_true rfl) rfl ?_
    refine v_iconst dX8_spread_27 ?_
    refine v_istore dX8_spread_28 (Nat.le_of_ble_eq_true rfl) rfl ?_
    exact hres _ _
  refine ok_enter rfl (Nat.le_of_ble_eq_true rfl) ?_
  refine v_aload_n dX8_spread_0 rfl ?_
  refine v_getR (q := 22) dX8_spread_1 fl_RX8_41 rfl rfl ?_
  refine v_callV0 dX8_spread_4 mv_RX8_79 rfl rfl (Nat.le_of_ble_eq_true rfl) ?_
  refine ok_rowsEmpty ?_
  show V _ _ _ _ _ _ _
  refine v_aload_n dX8_spread_7 rfl ?_
  refine v_getR (q := 27) dX8_spread_8 fl_RX8_9 rfl rfl ?_
  refine v_iconst dX8_spread_11 ?_
  refine v_callS2 dX8_spread_12 ms_RX8_50 (Nat.le_of_ble_eq_true rfl) ?_
  refine ok_fillI rfl (by decide) ?_
  rw [← hσ0]
  show V _ _ _ _ _ _ _
  refine v_aload_n dX8_spread_15 rfl ?_
  refine v_iload_n dX8_spread_16 rfl ?_
  refine v_iconst dX8_spread_17 ?_
  refine v_iconst dX8_spread_18 ?_
  refine v_callV3 dX8_spread_19 mv_RX8_82 rfl rfl (Nat.le_of_ble_eq_true rfl) ?_
  refine ok_meet (d := 0) (q := []) (p := 0) (k := 0) hm0 hm hB0 hV0 hs (fun _ => by simp) (by omega) (fun e he => by cases he) (fun h => absurd h (by simp)) (fun hin => by obtain ⟨e, he, _⟩ := hin; cases he) (fun hout τ' hB' hF' => ?_)
  show V _ _ _ _ _ _ _
  exact hmeet τ' hB' hF'
end CBF
