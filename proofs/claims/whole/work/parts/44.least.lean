/-! ===== ways, what they cost, the least; rings ===== -/
def goP (R : Rk) : St → List Nat → St
  | s, [] => s
  | s, k :: ks => goP R (nx R s k) ks
def kc (R : Rk) (k : Nat) : Nat := (R.2.2.2.2.getD k (0, 0, 0, 0)).2.1
def cstP (R : Rk) : List Nat → Nat
  | [] => 0
  | k :: ks => kc R k + cstP R ks
def okP (R : Rk) (ks : List Nat) : Prop := ∀ k ∈ ks, k < R.2.2.2.2.length
def LeastN (P : Nat → Prop) (f : Int) : Prop := (f = -1 ∧ ∀ n, ¬ P n) ∨ ∃ n : Nat, f = n ∧ P n ∧ ∀ n', P n' → n ≤ n'
def leP (R : Rk) (s : St) (v n : Nat) : Prop := ∃ ks, okP R ks ∧ (goP R s ks).1 = v ∧ cstP R ks = n
section LE
variable {R : Rk} {s t : St} {n k : Nat}
theorem LeastN.one {P : Nat → Prop} {f g : Int} (h1 : LeastN P f) (h2 : LeastN P g) : f = g := by
  rcases h1 with ⟨rfl, h⟩ | ⟨a, rfl, h3, h4⟩
  · rcases h2 with ⟨rfl, _⟩ | ⟨b, rfl, h5, _⟩
    · rfl
    · exact absurd h5 (h b)
  · rcases h2 with ⟨rfl, h⟩ | ⟨b, rfl, h5, h6⟩
    · exact absurd h3 (h a)
    · have q1 := h4 b h5
      have q2 := h6 a h3
      omega
theorem kc_b (hv : vR n R) (hk : k < R.2.2.2.2.length) : 1 ≤ kc R k ∧ kc R k ≤ 99 := by
  rcases hv with e | ⟨v1, v2, v3, v4, v5, v6, v7, v8, v9⟩
  · rw [e] at hk; exact absurd hk (by simp)
  · unfold kc
    rw [List.getD, List.getElem?_eq_getElem hk]
    have h := v9 _ (List.getElem_mem hk)
    exact ⟨h.2.1, h.2.2.1⟩
theorem goP_app : ∀ (ks : List Nat) (s : St), goP R s (ks ++ [k]) = nx R (goP R s ks) k
  | [], _ => rfl
  | _ :: ks, s => goP_app ks _
theorem goP_cat : ∀ (a b : List Nat) (s : St), goP R s (a ++ b) = goP R (goP R s a) b
  | [], _, _ => rfl
  | _ :: a, b, s => goP_cat a b _
theorem cstP_app : ∀ (ks : List Nat), cstP R (ks ++ [k]) = cstP R ks + kc R k
  | [] => by show kc R k + 0 = 0 + kc R k; omega
  | j :: ks => by
    show kc R j + cstP R (ks ++ [k]) = kc R j + cstP R ks + kc R k
    rw [cstP_app ks]; omega
theorem okP_app {ks : List Nat} (h : okP R ks) (hk : k < R.2.2.2.2.length) : okP R (ks ++ [k]) := fun j hj => by
  rcases List.mem_append.mp hj with h1 | h1
  · exact h j h1
  · rw [List.mem_singleton.mp h1]; exact hk
theorem okP_cat {a b : List Nat} (h : okP R a) (hb : okP R b) : okP R (a ++ b) := fun j hj => by
  rcases List.mem_append.mp hj with h1 | h1
  · exact h j h1
  · exact hb j h1
theorem okP_tl {ks : List Nat} (h : okP R (k :: ks)) : k < R.2.2.2.2.length ∧ okP R ks := ⟨h k (List.mem_cons_self ..), fun j hj => h j (List.mem_cons_of_mem _ hj)⟩
/-- labels that are closed up to C: no way costs less than C -/
theorem dij {Sd : St → Nat → Prop} {C v : Nat} (h1 : ∀ t d k, Sd t d → k < R.2.2.2.2.length → (∃ d', Sd (nx R t k) d' ∧ d' ≤ d + kc R k) ∨ C ≤ d + kc R k) (h2 : ∀ t d, Sd t d → t.1 = v → C ≤ d) : ∀ (ks : List Nat) (t : St) (d : Nat), Sd t d → okP R ks → (goP R t ks).1 = v → C ≤ d + cstP R ks
  | [], t, d, h, _, hg => Nat.le_trans (h2 t d h hg) (Nat.le_add_right _ _)
  | k :: ks, t, d, h, ho, hg => by
    obtain ⟨hk, ho2⟩ := okP_tl ho
    show C ≤ d + (kc R k + cstP R ks)
    rcases h1 t d k h hk with ⟨d', q1, q2⟩ | q
    · have := dij h1 h2 ks (nx R t k) d' q1 ho2 hg
      omega
    · omega
theorem goP_w (hv : vR n R) : ∀ (ks : List Nat) (s : St), okP R ks → wS R.2.2.2.1 s → wS R.2.2.2.1 (goP R s ks)
  | [], _, _, h => h
  | _ :: ks, _, ho, h => goP_w hv ks _ (okP_tl ho).2 (nx_w hv (okP_tl ho).1 h)
theorem goP_v (hv : vR n R) : ∀ (ks : List Nat) (s : St), okP R ks → vS R.2.2.2.1 s → vS R.2.2.2.1 (goP R s ks)
  | [], _, _, h => h
  | _ :: ks, _, ho, h => goP_v hv ks _ (okP_tl ho).2 (nx_v hv (okP_tl ho).1 h)
end LE
/-! rings: lists by links -/
def hdn (n : Int32) : List Nat → Int32
  | [] => n
  | x :: _ => nI x
def lan (p : Int32) : List Nat → Int32
  | [] => p
  | x :: l => lan (nI x) l
def seg (τ : Wd) : Int32 → List Nat → Int32 → Prop
  | _, [], _ => True
  | p, x :: l, n => τ.1 56 x = p ∧ τ.1 54 x = hdn n l ∧ seg τ (nI x) l n
section RG
variable {D : Nat} {σ τ τ' : Wd} {Q : Option Value → Wd → Prop}
theorem hdn_app : ∀ (a b : List Nat) (n : Int32), hdn n (a ++ b) = hdn (hdn n b) a
  | [], _, _ => rfl
  | _ :: _, _, _ => rfl
theorem lan_app : ∀ (a : List Nat) (p : Int32) (x : Nat), lan p (a ++ [x]) = nI x
  | [], _, _ => rfl
  | _ :: a, _, x => lan_app a _ x
theorem seg_app : ∀ (a : List Nat) (p : Int32) (b : List Nat) (n : Int32), seg τ p (a ++ b) n ↔ seg τ p a (hdn n b) ∧ seg τ (lan p a) b n
  | [], p, b, n => by show seg τ p b n ↔ True ∧ seg τ p b n; exact ⟨fun h => ⟨trivial, h⟩, fun h => h.2⟩
  | x :: a, p, b, n => by
    show (τ.1 56 x = p ∧ τ.1 54 x = hdn n (a ++ b) ∧ seg τ (nI x) (a ++ b) n) ↔ ((τ.1 56 x = p ∧ τ.1 54 x = hdn (hdn n b) a ∧ seg τ (nI x) a (hdn n b)) ∧ seg τ (lan (nI x) a) b n)
    rw [hdn_app, seg_app a (nI x) b n]
    exact ⟨fun h => ⟨⟨h.1, h.2.1, h.2.2.1⟩, h.2.2.2⟩, fun h => ⟨h.1.1, h.1.2.1, h.1.2.2, h.2⟩⟩
theorem seg_kept : ∀ (l : List Nat) (p n : Int32), (∀ x ∈ l, τ'.1 56 x = τ.1 56 x ∧ τ'.1 54 x = τ.1 54 x) → seg τ p l n → seg τ' p l n
  | [], _, _, _, _ => trivial
  | x :: l, p, n, hk, h => by
    obtain ⟨q1, q2⟩ := hk x (List.mem_cons_self ..)
    exact ⟨by rw [q1]; exact h.1, by rw [q2]; exact h.2.1, seg_kept l _ _ (fun y hy => hk y (List.mem_cons_of_mem _ hy)) h.2.2⟩
theorem seg_end {a : List Nat} {y : Nat} {p n n' : Int32} (h : seg τ p (a ++ [y]) n) (hk : ∀ x ∈ a, τ'.1 56 x = τ.1 56 x ∧ τ'.1 54 x = τ.1 54 x) (h1 : τ'.1 56 y = τ.1 56 y) (h2 : τ'.1 54 y = n') : seg τ' p (a ++ [y]) n' := by
  rw [seg_app] at h ⊢
  exact ⟨seg_kept a _ _ hk h.1, by rw [h1]; exact h.2.1, h2, trivial⟩
theorem seg_beg {b : List Nat} {z : Nat} {p p' n : Int32} (h : seg τ p (z :: b) n) (hk : ∀ x ∈ b, τ'.1 56 x = τ.1 56 x ∧ τ'.1 54 x = τ.1 54 x) (h1 : τ'.1 54 z = τ.1 54 z) (h2 : τ'.1 56 z = p') : seg τ' p' (z :: b) n :=
  ⟨h2, by rw [h1]; exact h.2.1, seg_kept b _ _ hk h.2.2⟩
theorem nI_nm1 {x : Nat} (h : x < 2147483648) : ¬ nI x = -1 := by
  rw [iz_nI, show (-1 : Int32) = iz (-1) from rfl, iz_eq (by omega) (by omega) (by omega) (by omega)]
  omega
theorem ok_takeOut {x d : Nat} {a b : List Nat} (hd : σ.1 53 x = nI d) (hd2 : d < 2147483648) (hH : σ.1 59 (d % 100) = hdn (-1) (a ++ x :: b)) (hs : seg σ (-1) (a ++ x :: b) (-1)) (hn : (a ++ x :: b).Nodup) (hb : ∀ y ∈ a ++ x :: b, y < 80000)
    (hQ : ∀ τ, (∀ p q, ¬ (p = 59 ∧ q = d % 100) → ¬ (p = 54 ∧ q ∈ a) → ¬ (p = 56 ∧ q ∈ b) → τ.1 p q = σ.1 p q) → τ.2 = σ.2 → τ.1 59 (d % 100) = hdn (-1) (a ++ b) → seg τ (-1) (a ++ b) (-1) → Q none τ) : Ok D mX12_takeOut [.ref 44, .int (nI x)] σ Q := by
  have hx : x < 80000 := hb x (List.mem_append_right _ (List.mem_cons_self ..))
  have hs0 := (seg_app _ _ _ _).mp hs
  obtain ⟨s1, s2, s3, s4⟩ := hs0
  have hna : x ∉ a := fun h => by
    rw [List.nodup_append] at hn
    exact hn.2.2 x h x (List.mem_cons_self ..) rfl
  have hnb : x ∉ b := fun h => by
    rw [List.nodup_append] at hn
    exact (List.nodup_cons.mp hn.2.1).1 h
  have hdis : ∀ u ∈ a, ∀ w ∈ b, u ≠ w := fun u hu w hw => by
    rw [List.nodup_append] at hn
    exact hn.2.2 u hu w (List.mem_cons_of_mem _ hw)
  have hndb : b.Nodup := by
    rw [List.nodup_append] at hn
    exact (List.nodup_cons.mp hn.2.1).2
  have hnda : a.Nodup := by
    rw [List.nodup_append] at hn
    exact hn.1
  -- the second half
  have half : ∀ τ, (∀ p q, ¬ (p = 59 ∧ q = d % 100) → ¬ (p = 54 ∧ q ∈ a) → τ.1 p q = σ.1 p q) → τ.2 = σ.2 → τ.1 59 (d % 100) = hdn (-1) (a ++ b) → seg τ (-1) a (hdn (-1) b) → V mX12_takeOut D 50 [some (.ref 44), some (.int (nI x))] [] τ Q := by
    intro τ f1 f2 f3 f4
    have g54 : τ.1 54 x = hdn (-1) b := by rw [f1 _ _ (by omega) (fun h => hna h.2)]; exact s3
    have g56 : τ.1 56 x = lan (-1) a := by rw [f1 _ _ (by omega) (by omega)]; exact s2
    cases b with
    | nil =>
      have h9 := hQ τ (fun p q e1 e2 _ => f1 p q e1 e2) f2 f3 (by rw [List.append_nil]; exact f4)
      refine v_aload_n dX12_takeOut_50 rfl ?_
      refine v_getR (q := 54) dX12_takeOut_51 fl_RX12_47 rfl rfl ?_
      refine v_iload_n dX12_takeOut_54 rfl ?_
      refine v_iaload dX12_takeOut_55 rfl (by exact vp_in_nI (by omega) (by omega)) ?_
      rw [nI_clamp (by omega), g54]
      refine v_iconst dX12_takeOut_56 ?_
      refine v_icmp_eq dX12_takeOut_57 (fun zc57 => ?_) (fun zc57 => ?_)
      · refine v_return dX12_takeOut_77 rfl ?_
        exact h9
      · exact absurd rfl zc57
    | cons z b =>
      have hz : z < 80000 := hb z (List.mem_append_right _ (List.mem_cons_of_mem _ (List.mem_cons_self ..)))
      have hzb : z ∉ b := (List.nodup_cons.mp hndb).1
      have h9 := hQ (setI τ 56 z (lan (-1) a)) (fun p q e1 e2 e3 => by rw [setI_ne (fun h => e3 ⟨h.1, by rw [h.2]; exact List.mem_cons_self ..⟩)]; exact f1 p q e1 e2) f2 (by rw [setI_ne (by omega)]; exact f3) (by
        rw [seg_app]
        refine ⟨seg_kept (τ := τ) a _ _ (fun u hu => ⟨setI_ne (fun h => hdis u hu z (List.mem_cons_self ..) h.2), setI_ne (by omega)⟩) f4, ?_⟩
        have s5 : seg τ (nI x) (z :: b) (-1) := seg_kept (τ := σ) _ _ _ (fun u hu => ⟨f1 _ _ (by omega) (by omega), f1 _ _ (by omega) (fun h => hdis u h.2 u hu rfl)⟩) s4
        exact seg_beg s5 (fun u hu => ⟨setI_ne (fun h => hzb (by rw [← h.2]; exact hu)), setI_ne (by omega)⟩) (setI_ne (by omega)) setI_same)
      have g54' : τ.1 54 x = nI z := g54
      refine v_aload_n dX12_takeOut_50 rfl ?_
      refine v_getR (q := 54) dX12_takeOut_51 fl_RX12_47 rfl rfl ?_
      refine v_iload_n dX12_takeOut_54 rfl ?_
      refine v_iaload dX12_takeOut_55 rfl (by exact vp_in_nI (by omega) (by omega)) ?_
      rw [nI_clamp (by omega), g54']
      refine v_iconst dX12_takeOut_56 ?_
      refine v_icmp_eq dX12_takeOut_57 (fun zc57 => ?_) (fun zc57 => ?_)
      · exact absurd zc57 (nI_nm1 (by omega))
      · refine v_aload_n dX12_takeOut_60 rfl ?_
        refine v_getR (q := 56) dX12_takeOut_61 fl_RX12_53 rfl rfl ?_
        refine v_aload_n dX12_takeOut_64 rfl ?_
        refine v_getR (q := 54) dX12_takeOut_65 fl_RX12_47 rfl rfl ?_
        refine v_iload_n dX12_takeOut_68 rfl ?_
        refine v_iaload dX12_takeOut_69 rfl (by exact vp_in_nI (by omega) (by omega)) ?_
        rw [nI_clamp (by omega), g54']
        refine v_aload_n dX12_takeOut_70 rfl ?_
        refine v_getR (q := 56) dX12_takeOut_71 fl_RX12_53 rfl rfl ?_
        refine v_iload_n dX12_takeOut_74 rfl ?_
        refine v_iaload dX12_takeOut_75 rfl (by exact vp_in_nI (by omega) (by omega)) ?_
        rw [nI_clamp (by omega), g56]
        refine v_iastore dX12_takeOut_76 rfl (by exact vp_in_nI (by omega) (by omega)) ?_
        rw [nI_clamp (by omega)]
        refine v_return dX12_takeOut_77 rfl ?_
        exact h9
  refine ok_enter rfl (Nat.le_of_ble_eq_true rfl) ?_
  rcases List.eq_nil_or_concat a with e | ⟨a', y, e⟩
  · subst e
    have g56 : σ.1 56 x = -1 := s2
    have h50 := half (setI σ 59 (d % 100) (hdn (-1) b)) (fun p q e1 e2 => setI_ne e1) rfl setI_same trivial
    refine v_aload_n dX12_takeOut_0 rfl ?_
    refine v_getR (q := 56) dX12_takeOut_1 fl_RX12_53 rfl rfl ?_
    refine v_iload_n dX12_takeOut_4 rfl ?_
    refine v_iaload dX12_takeOut_5 rfl (by exact vp_in_nI (by omega) (by omega)) ?_
    rw [nI_clamp (by omega), g56]
    refine v_iconst dX12_takeOut_6 ?_
    refine v_icmp_ne dX12_takeOut_7 (fun zc7 => ?_) (fun zc7 => ?_)
    · exact absurd rfl zc7
    · refine v_aload_n dX12_takeOut_10 rfl ?_
      refine v_getR (q := 59) dX12_takeOut_11 fl_RX12_62 rfl rfl ?_
      refine v_aload_n dX12_takeOut_14 rfl ?_
      refine v_getR (q := 53) dX12_takeOut_15 fl_RX12_44 rfl rfl ?_
      refine v_iload_n dX12_takeOut_18 rfl ?_
      refine v_iaload dX12_takeOut_19 rfl (by exact vp_in_nI (by omega) (by omega)) ?_
      rw [nI_clamp (by omega), hd]
      refine v_bipush dX12_takeOut_20 ?_
      refine v_irem dX12_takeOut_22 (by decide) ?_
      rw [show (100 : Int32) = nI 100 from rfl, pk_rem (by omega) (by omega) (by omega)]
      refine v_aload_n dX12_takeOut_23 rfl ?_
      refine v_getR (q := 54) dX12_takeOut_24 fl_RX12_47 rfl rfl ?_
      refine v_iload_n dX12_takeOut_27 rfl ?_
      refine v_iaload dX12_takeOut_28 rfl (by exact vp_in_nI (by omega) (by omega)) ?_
      rw [nI_clamp (by omega), s3]
      refine v_iastore dX12_takeOut_29 rfl (by exact vp_in_nI (by omega) (by omega)) ?_
      rw [nI_clamp (by omega)]
      refine v_goto dX12_takeOut_30 ?_
      exact h50
  · rw [List.concat_eq_append] at e
    subst e
    have hy : y < 80000 := hb y (List.mem_append_left _ (List.mem_append_right _ (List.mem_singleton.mpr rfl)))
    have g56 : σ.1 56 x = nI y := by rw [s2, lan_app]
    have hya : y ∉ a' := fun h => by
      rw [List.nodup_append] at hnda
      exact hnda.2.2 y h y (List.mem_singleton.mpr rfl) rfl
    have h50 := half (setI σ 54 y (hdn (-1) b)) (fun p q e1 e2 => setI_ne (fun h => e2 ⟨h.1, by rw [h.2]; exact List.mem_append_right _ (List.mem_singleton.mpr rfl)⟩)) rfl (by rw [setI_ne (by omega), hH]; simp only [hdn_app]; rfl) (seg_end s1 (fun u hu => ⟨setI_ne (by omega), setI_ne (fun h => hya (by rw [← h.2]; exact hu))⟩) (setI_ne (by omega)) setI_same)
    refine v_aload_n dX12_takeOut_0 rfl ?_
    refine v_getR (q := 56) dX12_takeOut_1 fl_RX12_53 rfl rfl ?_
    refine v_iload_n dX12_takeOut_4 rfl ?_
    refine v_iaload dX12_takeOut_5 rfl (by exact vp_in_nI (by omega) (by omega)) ?_
    rw [nI_clamp (by omega), g56]
    refine v_iconst dX12_takeOut_6 ?_
    refine v_icmp_ne dX12_takeOut_7 (fun zc7 => ?_) (fun zc7 => ?_)
    · refine v_aload_n dX12_takeOut_33 rfl ?_
      refine v_getR (q := 54) dX12_takeOut_34 fl_RX12_47 rfl rfl ?_
      refine v_aload_n dX12_takeOut_37 rfl ?_
      refine v_getR (q := 56) dX12_takeOut_38 fl_RX12_53 rfl rfl ?_
      refine v_iload_n dX12_takeOut_41 rfl ?_
      refine v_iaload dX12_takeOut_42 rfl (by exact vp_in_nI (by omega) (by omega)) ?_
      rw [nI_clamp (by omega), g56]
      refine v_aload_n dX12_takeOut_43 rfl ?_
      refine v_getR (q := 54) dX12_takeOut_44 fl_RX12_47 rfl rfl ?_
      refine v_iload_n dX12_takeOut_47 rfl ?_
      refine v_iaload dX12_takeOut_48 rfl (by exact vp_in_nI (by omega) (by omega)) ?_
      rw [nI_clamp (by omega), s3]
      refine v_iastore dX12_takeOut_49 rfl (by exact vp_in_nI (by omega) (by omega)) ?_
      rw [nI_clamp (by omega)]
      exact h50
    · exact absurd zc7 (nI_nm1 (by omega))
theorem ok_putIn {x d : Nat} {l : List Nat} (hx : x < 80000) (hd : σ.1 53 x = nI d) (hd2 : d < 2147483648) (hH : σ.1 59 (d % 100) = hdn (-1) l) (hs : seg σ (-1) l (-1)) (hn : l.Nodup) (hxl : x ∉ l) (hb : ∀ y ∈ l, y < 80000)
    (hQ : ∀ τ, (∀ p q, ¬ (p = 59 ∧ q = d % 100) → ¬ (p = 54 ∧ q = x) → ¬ (p = 56 ∧ (q = x ∨ q ∈ l)) → τ.1 p q = σ.1 p q) → τ.2 = σ.2 → τ.1 59 (d % 100) = nI x → seg τ (-1) (x :: l) (-1) → Q none τ) : Ok D mX12_putIn [.ref 44, .int (nI x)] σ Q := by
  refine ok_enter rfl (Nat.le_of_ble_eq_true rfl) ?_
  have hg : ∀ y z : Int32, (setI (setI σ 54 x y) 56 x z).1 59 (d % 100) = hdn (-1) l := fun y z => by rw [setI_ne (by omega), setI_ne (by omega)]; exact hH
  cases l with
  | nil =>
    have h9 := hQ (setI (setI (setI σ 54 x (-1)) 56 x (-1)) 59 (d % 100) (nI x)) (fun p q e1 e2 e3 => by rw [setI_ne e1, setI_ne (fun h => e3 ⟨h.1, Or.inl h.2⟩), setI_ne e2]) rfl setI_same ⟨by rw [setI_ne (by omega), setI_same], by rw [setI_ne (by omega), setI_ne (by omega), setI_same]; rfl, trivial⟩
    refine v_aload_n dX12_putIn_0 rfl ?_
    refine v_getR (q := 53) dX12_putIn_1 fl_RX12_44 rfl rfl ?_
    refine v_iload_n dX12_putIn_4 rfl ?_
    refine v_iaload dX12_putIn_5 rfl (by exact vp_in_nI (by omega) (by omega)) ?_
    rw [nI_clamp (by omega), hd]
    refine v_bipush dX12_putIn_6 ?_
    refine v_irem dX12_putIn_8 (by decide) ?_
    rw [show (100 : Int32) = nI 100 from rfl, pk_rem (by omega) (by omega) (by omega)]
    refine v_istore_n dX12_putIn_9 (Nat.le_of_ble_eq_true rfl) rfl ?_
    refine v_aload_n dX12_putIn_10 rfl ?_
    refine v_getR (q := 54) dX12_putIn_11 fl_RX12_47 rfl rfl ?_
    refine v_iload_n dX12_putIn_14 rfl ?_
    refine v_aload_n dX12_putIn_15 rfl ?_
    refine v_getR (q := 59) dX12_putIn_16 fl_RX12_62 rfl rfl ?_
    refine v_iload_n dX12_putIn_19 rfl ?_
    refine v_iaload dX12_putIn_20 rfl (by exact vp_in_nI (by omega) (by omega)) ?_
    rw [nI_clamp (by omega), hH]
    refine v_iastore dX12_putIn_21 rfl (by exact vp_in_nI (by omega) (by omega)) ?_
    rw [nI_clamp (by omega)]
    refine v_aload_n dX12_putIn_22 rfl ?_
    refine v_getR (q := 56) dX12_putIn_23 fl_RX12_53 rfl rfl ?_
    refine v_iload_n dX12_putIn_26 rfl ?_
    refine v_iconst dX12_putIn_27 ?_
    refine v_iastore dX12_putIn_28 rfl (by exact vp_in_nI (by omega) (by omega)) ?_
    rw [nI_clamp (by omega)]
    refine v_aload_n dX12_putIn_29 rfl ?_
    refine v_getR (q := 59) dX12_putIn_30 fl_RX12_62 rfl rfl ?_
    refine v_iload_n dX12_putIn_33 rfl ?_
    refine v_iaload dX12_putIn_34 rfl (by exact vp_in_nI (by omega) (by omega)) ?_
    rw [nI_clamp (by omega), hg]
    refine v_iconst dX12_putIn_35 ?_
    refine v_icmp_eq dX12_putIn_36 (fun zc36 => ?_) (fun zc36 => ?_)
    · refine v_aload_n dX12_putIn_51 rfl ?_
      refine v_getR (q := 59) dX12_putIn_52 fl_RX12_62 rfl rfl ?_
      refine v_iload_n dX12_putIn_55 rfl ?_
      refine v_iload_n dX12_putIn_56 rfl ?_
      refine v_iastore dX12_putIn_57 rfl (by exact vp_in_nI (by omega) (by omega)) ?_
      rw [nI_clamp (by omega)]
      refine v_return dX12_putIn_58 rfl ?_
      exact h9
    · exact absurd rfl zc36
  | cons z l =>
    have hz : z < 80000 := hb z (List.mem_cons_self ..)
    have hxz : x ≠ z := fun h => hxl (by rw [h]; exact List.mem_cons_self ..)
    have hzl : z ∉ l := (List.nodup_cons.mp hn).1
    have hxl2 : x ∉ l := fun h => hxl (List.mem_cons_of_mem _ h)
    have h9 := hQ (setI (setI (setI (setI σ 54 x (nI z)) 56 x (-1)) 56 z (nI x)) 59 (d % 100) (nI x)) (fun p q e1 e2 e3 => by rw [setI_ne e1, setI_ne (fun h => e3 ⟨h.1, Or.inr (by rw [h.2]; exact List.mem_cons_self ..)⟩), setI_ne (fun h => e3 ⟨h.1, Or.inl h.2⟩), setI_ne e2]) rfl setI_same ⟨by rw [setI_ne (by omega), setI_ne (by omega), setI_same], by rw [setI_ne (by omega), setI_ne (by omega), setI_ne (by omega), setI_same]; rfl, seg_beg hs (fun u hu => ⟨by rw [setI_ne (by omega), setI_ne (fun h => hzl (by rw [← h.2]; exact hu)), setI_ne (fun h => hxl2 (by rw [← h.2]; exact hu)), setI_ne (by omega)], by rw [setI_ne (by omega), setI_ne (by omega), setI_ne (by omega), setI_ne (fun h => hxl2 (by rw [← h.2]; exact hu))]⟩) (by rw [setI_ne (by omega), setI_ne (by omega), setI_ne (by omega), setI_ne (fun h => hxz h.2.symm)]) (by rw [setI_ne (by omega), setI_same])⟩
    have hH' : σ.1 59 (d % 100) = nI z := hH
    have hg' : ∀ y z2 : Int32, (setI (setI σ 54 x y) 56 x z2).1 59 (d % 100) = nI z := hg
    refine v_aload_n dX12_putIn_0 rfl ?_
    refine v_getR (q := 53) dX12_putIn_1 fl_RX12_44 rfl rfl ?_
    refine v_iload_n dX12_putIn_4 rfl ?_
    refine v_iaload dX12_putIn_5 rfl (by exact vp_in_nI (by omega) (by omega)) ?_
    rw [nI_clamp (by omega), hd]
    refine v_bipush dX12_putIn_6 ?_
    refine v_irem dX12_putIn_8 (by decide) ?_
    rw [show (100 : Int32) = nI 100 from rfl, pk_rem (by omega) (by omega) (by omega)]
    refine v_istore_n dX12_putIn_9 (Nat.le_of_ble_eq_true rfl) rfl ?_
    refine v_aload_n dX12_putIn_10 rfl ?_
    refine v_getR (q := 54) dX12_putIn_11 fl_RX12_47 rfl rfl ?_
    refine v_iload_n dX12_putIn_14 rfl ?_
    refine v_aload_n dX12_putIn_15 rfl ?_
    refine v_getR (q := 59) dX12_putIn_16 fl_RX12_62 rfl rfl ?_
    refine v_iload_n dX12_putIn_19 rfl ?_
    refine v_iaload dX12_putIn_20 rfl (by exact vp_in_nI (by omega) (by omega)) ?_
    rw [nI_clamp (by omega), hH']
    refine v_iastore dX12_putIn_21 rfl (by exact vp_in_nI (by omega) (by omega)) ?_
    rw [nI_clamp (by omega)]
    refine v_aload_n dX12_putIn_22 rfl ?_
    refine v_getR (q := 56) dX12_putIn_23 fl_RX12_53 rfl rfl ?_
    refine v_iload_n dX12_putIn_26 rfl ?_
    refine v_iconst dX12_putIn_27 ?_
    refine v_iastore dX12_putIn_28 rfl (by exact vp_in_nI (by omega) (by omega)) ?_
    rw [nI_clamp (by omega)]
    refine v_aload_n dX12_putIn_29 rfl ?_
    refine v_getR (q := 59) dX12_putIn_30 fl_RX12_62 rfl rfl ?_
    refine v_iload_n dX12_putIn_33 rfl ?_
    refine v_iaload dX12_putIn_34 rfl (by exact vp_in_nI (by omega) (by omega)) ?_
    rw [nI_clamp (by omega), hg']
    refine v_iconst dX12_putIn_35 ?_
    refine v_icmp_eq dX12_putIn_36 (fun zc36 => ?_) (fun zc36 => ?_)
    · exact absurd zc36 (nI_nm1 (by omega))
    · refine v_aload_n dX12_putIn_39 rfl ?_
      refine v_getR (q := 56) dX12_putIn_40 fl_RX12_53 rfl rfl ?_
      refine v_aload_n dX12_putIn_43 rfl ?_
      refine v_getR (q := 59) dX12_putIn_44 fl_RX12_62 rfl rfl ?_
      refine v_iload_n dX12_putIn_47 rfl ?_
      refine v_iaload dX12_putIn_48 rfl (by exact vp_in_nI (by omega) (by omega)) ?_
      rw [nI_clamp (by omega), hg']
      refine v_iload_n dX12_putIn_49 rfl ?_
      refine v_iastore dX12_putIn_50 rfl (by exact vp_in_nI (by omega) (by omega)) ?_
      rw [nI_clamp (by omega)]
      refine v_aload_n dX12_putIn_51 rfl ?_
      refine v_getR (q := 59) dX12_putIn_52 fl_RX12_62 rfl rfl ?_
      refine v_iload_n dX12_putIn_55 rfl ?_
      refine v_iload_n dX12_putIn_56 rfl ?_
      refine v_iastore dX12_putIn_57 rfl (by exact vp_in_nI (by omega) (by omega)) ?_
      rw [nI_clamp (by omega)]
      refine v_return dX12_putIn_58 rfl ?_
      exact h9
end RG
