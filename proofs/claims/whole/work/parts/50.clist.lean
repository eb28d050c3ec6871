/-! ===== told numbers one behind the other: the class's chain, a state met ===== -/
def Snd (R : Rk) (src : List En) (t : St) (d : Nat) : Prop := ∃ y ∈ src, ∃ ks, okP R ks ∧ goP R y.1 ks = t ∧ d = y.2.2.2 + ks.length
def Cr (R : Rk) (src : List En) (g : Nat) (q E : List En) (b : Nat) : Prop :=
  bfV R.2.2.2.1 (q ++ E) ∧ (∀ e ∈ q, e.1.1 ≠ g) ∧ (∀ e ∈ E, e.1.1 = g) ∧ srt q ∧ srt E ∧ (∀ e ∈ q ++ E, e.2.2.2 ≤ b) ∧
  ∀ e ∈ q ++ E, Snd R src e.1 e.2.2.2
def EX (τ : Wd) (c : Nat) (E : List En) : Prop := τ.1 33 6 = nI E.length ∧ ∀ (j : Nat) (e : En), E[j]? = some e → τ.1 c j = nI (ps e.1) ∧ τ.1 (c + 1) j = nI e.2.2.2
def CX (τ : Wd) (c : Nat) (q E : List En) : Prop := (τ.1 22 3 = nI q.length ∧ ∀ (j : Nat) (e : En), q[j]? = some e → τ.1 24 j = nI (ps e.1) ∧ τ.1 25 j = nI e.2.2.2) ∧ EX τ c E ∧ ∀ n, n < 131072 → (seen τ n = true ↔ ∃ e ∈ q ++ E, ps e.1 = n)
def AP (τ : Wd) (a c : Nat) : Prop := ((a = 34 ∧ c = 36) ∨ (a = 36 ∧ c = 34)) ∧ τ.2.2 33 1 = a ∧ τ.2.2 33 2 = a + 1 ∧ τ.2.2 33 4 = c ∧ τ.2.2 33 5 = c + 1
def XF (c : Nat) (σ τ : Wd) : Prop := (∀ p b, ¬ (p = 24 ∨ p = 25 ∨ p = c ∨ p = c + 1 ∨ (p = 22 ∧ b = 3) ∨ (p = 33 ∧ b = 6)) → τ.1 p b = σ.1 p b) ∧ τ.2.2 = σ.2.2 ∧ ∀ p, p ≠ 23 → τ.2.1 p = σ.2.1 p
def SR (τ : Wd) (a : Nat) (src : List En) : Prop := τ.1 33 3 = nI src.length ∧ ∀ (j : Nat) (e : En), src[j]? = some e → τ.1 a j = nI (ps e.1) ∧ τ.1 (a + 1) j = nI e.2.2.2
section CH
variable {D : Nat} {σ τ τ' : Wd} {Q : Option Value → Wd → Prop} {R : Rk} {s t : St} {q q' E E' src : List En} {a b c g k n m d r : Nat}
theorem AP.la (h : AP τ a c) : vm_lay[a]? = some (1, 602) := by rcases h.1 with ⟨rfl, rfl⟩ | ⟨rfl, rfl⟩ <;> rfl
theorem AP.lb (h : AP τ a c) : vm_lay[a + 1]? = some (1, 602) := by rcases h.1 with ⟨rfl, rfl⟩ | ⟨rfl, rfl⟩ <;> rfl
theorem AP.lc (h : AP τ a c) : vm_lay[c]? = some (1, 602) := by rcases h.1 with ⟨rfl, rfl⟩ | ⟨rfl, rfl⟩ <;> rfl
theorem AP.ld (h : AP τ a c) : vm_lay[c + 1]? = some (1, 602) := by rcases h.1 with ⟨rfl, rfl⟩ | ⟨rfl, rfl⟩ <;> rfl
theorem AP.kept (h : AP τ a c) (hk : τ'.2.2 = τ.2.2) : AP τ' a c := by unfold AP at h ⊢; rw [hk]; exact h
theorem Cr.up {b' : Nat} (h : Cr R src g q E b) (hb : b ≤ b') : Cr R src g q E b' := ⟨h.1, h.2.1, h.2.2.1, h.2.2.2.1, h.2.2.2.2.1, fun e he => Nat.le_trans (h.2.2.2.2.2.1 e he) hb, h.2.2.2.2.2.2⟩
theorem XF.rf : XF c σ σ := ⟨fun _ _ _ => rfl, rfl, fun _ _ => rfl⟩
theorem XF.tr {x y z : Wd} (h1 : XF c x y) (h2 : XF c y z) : XF c x z := ⟨fun p b h => by rw [h2.1 p b h, h1.1 p b h], by rw [h2.2.1, h1.2.1], fun p h => by rw [h2.2.2 p h, h1.2.2 p h]⟩
theorem bfV_nod {x : En} (h : bfV m (q ++ E)) (hx : vS m x.1) (hne : ∀ e ∈ q ++ E, e.1 ≠ x.1) : bfV m ((q ++ [x]) ++ E) ∧ bfV m (q ++ (E ++ [x])) := by
  have h0 : bfV m ((q ++ E) ++ [x]) := by
    refine ⟨?_, fun y hy => ?_⟩
    · rw [List.map_append, List.nodup_append]
      refine ⟨h.1, by simp, fun u hu w hw => ?_⟩
      obtain ⟨y, hy, rfl⟩ := List.mem_map.mp hu
      have hw2 : w = x.1 := by simpa using hw
      rw [hw2]
      exact hne y hy
    · rcases List.mem_append.mp hy with hy | hy
      · exact h.2 y hy
      · rw [List.mem_singleton.mp hy]; exact hx
  have hp : (q ++ E ++ [x]).Perm (q ++ [x] ++ E) := by
    rw [List.append_assoc, List.append_assoc]
    exact List.Perm.append_left q List.perm_append_comm
  refine ⟨⟨(hp.map _).nodup_iff.mp h0.1, fun y hy => h0.2 y (hp.mem_iff.mpr hy)⟩, ?_⟩
  rw [← List.append_assoc]
  exact h0
theorem Cr.addq {x : En} (h : Cr R src g q E b) (hx : vS R.2.2.2.1 x.1) (hne : ∀ e ∈ q ++ E, e.1 ≠ x.1) (hg : x.1.1 ≠ g) (hb : b ≤ x.2.2.2) (hs : Snd R src x.1 x.2.2.2) : Cr R src g (q ++ [x]) E x.2.2.2 := by
  obtain ⟨a1, a2, a3, a4, a5, a6, a7⟩ := h
  have hmem : ∀ e ∈ q ++ [x] ++ E, e ∈ q ++ E ∨ e = x := fun e he => by
    rcases List.mem_append.mp he with h1 | h1
    · rcases List.mem_append.mp h1 with h2 | h2
      · exact Or.inl (List.mem_append_left _ h2)
      · exact Or.inr (List.mem_singleton.mp h2)
    · exact Or.inl (List.mem_append_right _ h1)
  refine ⟨(bfV_nod a1 hx hne).1, fun e he => ?_, a3, srt_add a4 (fun e he => Nat.le_trans (a6 e (List.mem_append_left _ he)) hb), a5, fun e he => ?_, fun e he => ?_⟩
  · rcases List.mem_append.mp he with h1 | h1
    · exact a2 e h1
    · rw [List.mem_singleton.mp h1]; exact hg
  · rcases hmem e he with h1 | h1
    · exact Nat.le_trans (a6 e h1) hb
    · rw [h1]; exact Nat.le_refl _
  · rcases hmem e he with h1 | h1
    · exact a7 e h1
    · rw [h1]; exact hs
theorem Cr.adde {x : En} (h : Cr R src g q E b) (hx : vS R.2.2.2.1 x.1) (hne : ∀ e ∈ q ++ E, e.1 ≠ x.1) (hg : x.1.1 = g) (hb : b ≤ x.2.2.2) (hs : Snd R src x.1 x.2.2.2) : Cr R src g q (E ++ [x]) x.2.2.2 := by
  obtain ⟨a1, a2, a3, a4, a5, a6, a7⟩ := h
  have hmem : ∀ e ∈ q ++ (E ++ [x]), e ∈ q ++ E ∨ e = x := fun e he => by
    rw [← List.append_assoc] at he
    rcases List.mem_append.mp he with h1 | h1
    · exact Or.inl h1
    · exact Or.inr (List.mem_singleton.mp h1)
  refine ⟨(bfV_nod a1 hx hne).2, a2, fun e he => ?_, a4, srt_add a5 (fun e he => Nat.le_trans (a6 e (List.mem_append_right _ he)) hb), fun e he => ?_, fun e he => ?_⟩
  · rcases List.mem_append.mp he with h1 | h1
    · exact a3 e h1
    · rw [List.mem_singleton.mp h1]; exact hg
  · rcases hmem e he with h1 | h1
    · exact Nat.le_trans (a6 e h1) hb
    · rw [h1]; exact Nat.le_refl _
  · rcases hmem e he with h1 | h1
    · exact a7 e h1
    · rw [h1]; exact hs
theorem bfV_l (h : bfV m (q ++ E)) : bfV m q := ⟨by have := h.1; rw [List.map_append, List.nodup_append] at this; exact this.1, fun e he => h.2 e (List.mem_append_left _ he)⟩
theorem bfV_r (h : bfV m (q ++ E)) : bfV m E := ⟨by have := h.1; rw [List.map_append, List.nodup_append] at this; exact this.2.1, fun e he => h.2 e (List.mem_append_right _ he)⟩
theorem ok_chmeet (hA : AP σ a c) (hm0 : 0 < R.2.2.2.1) (hm : R.2.2.2.1 ≤ 100) (hX : CX σ c q E) (hC : Cr R src g q E b) (ht : vS R.2.2.2.1 t) (hg : g < 100) (hb : b ≤ d) (hs : Snd R src t d)
    (hQ : ∀ τ q' E', XF c σ τ → CX τ c q' E' → Cr R src g q' E' d → q <+: q' → E <+: E' → (∃ e ∈ q' ++ E', e.1 = t ∧ e.2.2.2 ≤ d) → (∀ (j : Nat) (e : En), q.length ≤ j → q'[j]? = some e → e.2.2.2 = d) → Q none τ) : Ok (D + 1) mX1_meet [.ref 33, .int (nI (ps t)), .int (nI d), .int (nI g)] σ Q := by
  have hpl := ps_lt hm ht
  have hsh : t.1 < 100 := by have := ht.1; omega
  have e1 := ps_sh hm ht
  have hc1 : 34 ≤ c ∧ c ≤ 36 := by rcases hA.1 with h | h <;> omega
  obtain ⟨⟨x1, x2⟩, ⟨x3, x4⟩, x5⟩ := hX
  have hseen := x5 (ps t) hpl
  have hiff : (∃ e ∈ q ++ E, ps e.1 = ps t) ↔ ∃ e ∈ q ++ E, e.1 = t := ⟨fun ⟨e, h1, h2⟩ => ⟨e, h1, ps_inj hm (hC.1.2 e h1) ht h2⟩, fun ⟨e, h1, h2⟩ => ⟨e, h1, by rw [h2]⟩⟩
  have hin : (∃ e ∈ q ++ E, e.1 = t) → Q none σ := by
    rintro ⟨e, h1, h2⟩
    refine hQ σ q E XF.rf ⟨⟨x1, x2⟩, ⟨x3, x4⟩, x5⟩ (hC.up hb) List.prefix_rfl List.prefix_rfl ⟨e, h1, h2, Nat.le_trans (hC.2.2.2.2.2.1 e h1) hb⟩ (fun j e hj he => ?_)
    rw [List.getElem?_eq_none hj] at he; cases he
  have after : (∀ e ∈ q ++ E, e.1 ≠ t) → ∀ σ1 : Wd, σ1.1 = σ.1 → σ1.2.2 = σ.2.2 → (∀ p, p ≠ 23 → σ1.2.1 p = σ.2.1 p) → (∀ n, n < 131072 → seen σ1 n = (decide (n = ps t) || seen σ n)) → V mX1_meet (D + 1) 12 [some (.ref 33), some (.int (nI (ps t))), some (.int (nI d)), some (.int (nI g))] [] σ1 Q := by
    intro hne σ1 g1 g2 g3 g4
    have hsn : ∀ τ' : Wd, τ'.2 = σ1.2 → ∀ q2 E2 : List En, (∀ e, e ∈ q2 ++ E2 ↔ e ∈ q ++ E ∨ e = ((t, 0, 0, d) : En)) → ∀ n, n < 131072 → (seen τ' n = true ↔ ∃ e ∈ q2 ++ E2, ps e.1 = n) := by
      intro τ' f q2 E2 hq n hn
      have e2 : seen τ' n = seen σ1 n := by unfold seen; rw [f]
      rw [e2, g4 n hn, Bool.or_eq_true]
      constructor
      · rintro (hh | hh)
        · exact ⟨_, (hq _).mpr (Or.inr rfl), (of_decide_eq_true hh).symm⟩
        · obtain ⟨e, h1, h2⟩ := (x5 n hn).mp hh
          exact ⟨e, (hq e).mpr (Or.inl h1), h2⟩
      · rintro ⟨e, h1, h2⟩
        rcases (hq e).mp h1 with h1 | h1
        · exact Or.inr ((x5 n hn).mpr ⟨e, h1, h2⟩)
        · rw [h1] at h2
          exact Or.inl (decide_eq_true h2.symm)
    have hap := hA.kept g2
    have h4 := hap.2.2.2.1
    have h5 := hap.2.2.2.2
    by_cases hgt : t.1 = g
    · have hC2 := hC.adde (x := (t, 0, 0, d)) ht hne hgt hb hs
      have hEl := show_len hm0 hm (bfV_r hC2.1) hC2.2.2.1
      rw [List.length_append, List.length_singleton] at hEl
      have h9 := hQ (setI (setI (setI σ1 (c) E.length (nI (ps t))) (c + 1) E.length (nI d)) 33 6 (nI (E.length + 1))) q (E ++ [(t, 0, 0, d)]) ⟨fun p b h => by rw [setI_ne (by omega), setI_ne (by omega), setI_ne (by omega), g1], g2, g3⟩
        ⟨⟨by rw [setI_ne (by omega), setI_ne (by omega), setI_ne (by omega), g1]; exact x1, fun j e hj => by
            rw [setI_ne (by omega), setI_ne (by omega), setI_ne (by omega), setI_ne (by omega), setI_ne (by omega), setI_ne (by omega), g1]
            exact x2 j e hj⟩,
          ⟨by rw [setI_same, List.length_append]; rfl, fun j e hj => by
            rcases getQ_app hj with ⟨j1, j2⟩ | ⟨j1, j2⟩
            · rw [setI_ne (by omega), setI_ne (by omega), setI_ne (by omega), setI_ne (by omega), setI_ne (by omega), setI_ne (by omega), g1]
              exact x4 j e j2
            · rw [j1, j2]
              exact ⟨by rw [setI_ne (by omega), setI_ne (by omega), setI_same], by rw [setI_ne (by omega), setI_same]⟩⟩,
          hsn _ rfl _ _ (fun e => by rw [← List.append_assoc, List.mem_append, List.mem_singleton])⟩
        hC2 List.prefix_rfl (List.prefix_append _ _) ⟨(t, 0, 0, d), by rw [← List.append_assoc]; exact List.mem_append_right _ (List.mem_singleton.mpr rfl), rfl, Nat.le_refl _⟩ (fun j e hj he => by rw [List.getElem?_eq_none hj] at he; cases he)
      refine v_iload_n dX1_meet_12 rfl ?_
      refine v_callS1 dX1_meet_13 ms_RX1_93 (Nat.le_of_ble_eq_true rfl) ?_
      refine ok_shownIn ?_
      rw [e1]
      show V _ _ _ _ (_ :: _) _ _
      refine v_iload_n dX1_meet_16 rfl ?_
      refine v_icmp_eq dX1_meet_17 (fun zc17 => ?_) (fun zc17 => ?_)
      · refine v_aload_n dX1_meet_32 rfl ?_
        refine v_getI dX1_meet_33 fl_RX1_28 rfl ?_
        rw [g1, x3]
        refine v_sipush dX1_meet_36 ?_
        refine v_icmp_ge dX1_meet_39 (fun zc39 => ?_) (fun zc39 => ?_)
        · exact absurd zc39 (nI_ge (b := 602) (by omega) (by omega))
        · refine v_aload_n dX1_meet_42 rfl ?_
          refine v_getM dX1_meet_43 fl_RX1_22 rfl ?_
          rw [h4]
          refine v_aload_n dX1_meet_46 rfl ?_
          refine v_getI dX1_meet_47 fl_RX1_28 rfl ?_
          rw [g1, x3]
          refine v_iload_n dX1_meet_50 rfl ?_
          refine v_callS3 dX1_meet_51 ms_RX1_40 (Nat.le_of_ble_eq_true rfl) ?_
          refine ok_put hA.lc (by decide) ?_
          rw [wPut_nI (by omega) (by omega)]
          show V _ _ _ _ _ _ _
          refine v_aload_n dX1_meet_54 rfl ?_
          refine v_getM dX1_meet_55 fl_RX1_25 rfl ?_
          rw [show (setI σ1 (c) E.length (nI (ps t))).2.2 33 5 = c + 1 from h5]
          refine v_aload_n dX1_meet_58 rfl ?_
          refine v_getI dX1_meet_59 fl_RX1_28 rfl ?_
          rw [setI_ne (by omega), g1, x3]
          refine v_iload_n dX1_meet_62 rfl ?_
          refine v_callS3 dX1_meet_63 ms_RX1_40 (Nat.le_of_ble_eq_true rfl) ?_
          refine ok_put hA.ld (by decide) ?_
          rw [wPut_nI (by omega) (by omega)]
          show V _ _ _ _ _ _ _
          refine v_aload_n dX1_meet_66 rfl ?_
          refine v_dup dX1_meet_67 rfl ?_
          refine v_getI dX1_meet_68 fl_RX1_28 rfl ?_
          rw [setI_ne (by omega), setI_ne (by omega), g1, x3]
          refine v_iconst dX1_meet_71 ?_
          refine v_iadd dX1_meet_72 ?_
          rw [nI_1]
          refine v_putI dX1_meet_73 fp_RX1_28 rfl ?_
          refine v_return dX1_meet_76 rfl ?_
          exact h9
      · exact absurd (show nI t.1 = nI g by rw [hgt]) zc17
    · have hC2 := hC.addq (x := (t, 0, 0, d)) ht hne hgt hb hs
      have hql : q.length < 60200 := by
        have := Nat.le_trans (bfV.len hm0 (bfV_l hC2.1)) (nPl_le hm)
        rw [List.length_append, List.length_singleton] at this
        omega
      have h9 := hQ (setI (setI (setI σ1 24 q.length (nI (ps t))) 25 q.length (nI d)) 22 3 (nI (q.length + 1))) (q ++ [(t, 0, 0, d)]) E ⟨fun p b h => by rw [setI_ne (by omega), setI_ne (by omega), setI_ne (by omega), g1], g2, g3⟩
        ⟨⟨by rw [setI_same, List.length_append]; rfl, fun j e hj => by
            rcases getQ_app hj with ⟨j1, j2⟩ | ⟨j1, j2⟩
            · rw [setI_ne (by omega), setI_ne (by omega), setI_ne (by omega), setI_ne (by omega), setI_ne (by omega), setI_ne (by omega), g1]
              exact x2 j e j2
            · rw [j1, j2]
              exact ⟨by rw [setI_ne (by omega), setI_ne (by omega), setI_same], by rw [setI_ne (by omega), setI_same]⟩⟩,
          ⟨by rw [setI_ne (by omega), setI_ne (by omega), setI_ne (by omega), g1]; exact x3, fun j e hj => by
            rw [setI_ne (by omega), setI_ne (by omega), setI_ne (by omega), setI_ne (by omega), setI_ne (by omega), setI_ne (by omega), g1]
            exact x4 j e hj⟩,
          hsn _ rfl _ _ (fun e => by
            rw [List.mem_append, List.mem_append, List.mem_append, List.mem_singleton]
            exact ⟨fun h => h.elim (fun h => h.elim (fun h => Or.inl (Or.inl h)) Or.inr) (fun h => Or.inl (Or.inr h)), fun h => h.elim (fun h => h.elim (fun h => Or.inl (Or.inl h)) Or.inr) (fun h => Or.inl (Or.inr h))⟩)⟩
        hC2 (List.prefix_append _ _) List.prefix_rfl ⟨(t, 0, 0, d), List.mem_append_left _ (List.mem_append_right _ (List.mem_singleton.mpr rfl)), rfl, Nat.le_refl _⟩ (fun j e hj he => by
          rcases getQ_app he with ⟨j1, j2⟩ | ⟨j1, j2⟩
          · omega
          · rw [j2])
      refine v_iload_n dX1_meet_12 rfl ?_
      refine v_callS1 dX1_meet_13 ms_RX1_93 (Nat.le_of_ble_eq_true rfl) ?_
      refine ok_shownIn ?_
      rw [e1]
      show V _ _ _ _ (_ :: _) _ _
      refine v_iload_n dX1_meet_16 rfl ?_
      refine v_icmp_eq dX1_meet_17 (fun zc17 => ?_) (fun zc17 => ?_)
      · exact absurd ((nI_eq (by omega) (by omega)).mp zc17) hgt
      · refine v_aload_n dX1_meet_20 rfl ?_
        refine v_getR (q := 22) dX1_meet_21 fl_RX1_31 rfl rfl ?_
        refine v_iload_n dX1_meet_24 rfl ?_
        refine v_iload_n dX1_meet_25 rfl ?_
        refine v_callV2 dX1_meet_26 mv_RX1_97 rfl rfl (Nat.le_of_ble_eq_true rfl) ?_
        refine ok_rowsAppend (c := q.length) (by rw [g1]; exact x1) hql ?_
        show V _ _ _ _ _ _ _
        refine v_goto dX1_meet_29 ?_
        refine v_return dX1_meet_76 rfl ?_
        exact h9
  refine ok_enter rfl (Nat.le_of_ble_eq_true rfl) ?_
  refine v_aload_n dX1_meet_0 rfl ?_
  refine v_getR (q := 22) dX1_meet_1 fl_RX1_31 rfl rfl ?_
  refine v_iload_n dX1_meet_4 rfl ?_
  refine v_callV1 dX1_meet_5 mv_RX1_89 rfl rfl (Nat.le_of_ble_eq_true rfl) ?_
  refine ok_mark hpl (fun hs1 => ?_) (fun hs1 σ1 g1 g2 g3 g4 => ?_)
  · show V _ _ _ _ (_ :: _) _ _
    refine v_if_ne dX1_meet_8 (fun z => absurd rfl z) (fun _ => ?_)
    refine v_return dX1_meet_11 rfl ?_
    exact hin (hiff.mp (hseen.mp hs1))
  show V _ _ _ _ (_ :: _) _ _
  refine v_if_ne dX1_meet_8 (fun zc8 => ?_) (fun zc8 => ?_)
  · exact after (fun e he h2 => by have := hseen.mpr (hiff.mpr ⟨e, he, h2⟩); rw [hs1] at this; cases this) σ1 g1 g2 g3 g4
  · exact absurd zc8 (by decide)
end CH
