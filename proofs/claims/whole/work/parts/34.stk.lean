/-! ===== what can have been struck: lists ===== -/
abbrev RS := St × Nat
def andL (l : List Nat) : Nat := l.foldr (fun a b => a &&& b) 255
def enc (l : List Nat) : Nat := if l.length = 0 then 0 else 256 * l.length + andL l
def stkT (R : Rk) (L : List RS) : List (RS × Nat) := L.flatMap (fun x => (List.range R.2.2.2.2.length).map (fun k => (x, k)))
def stkN (R : Rk) (y : RS × Nat) : RS := (nx R y.1.1 y.2, y.1.2 ||| 2 ^ y.2)
def stkL (R : Rk) (s : St) : Nat → List RS
  | 0 => [(s, 0)]
  | n + 1 => (stkT R (stkL R s n)).map (stkN R)
def stkTot (R : Rk) (s : St) (n v : Nat) : Nat := ((stkL R s n).filter (fun x => decide (x.1.1 = v))).length
def stkCom (R : Rk) (s : St) (n v : Nat) : Nat := if stkTot R s n v = 0 then 0 else andL (((stkL R s n).filter (fun x => decide (x.1.1 = v))).map Prod.snd)
section SK
variable {R : Rk} {s : St} {n : Nat} {L : List RS}
theorem andL_lt : ∀ l, andL l < 256
  | [] => by decide
  | a :: l => Nat.lt_of_le_of_lt Nat.and_le_right (andL_lt l)
theorem and_255 {a b : Nat} (h : a < 256) : a &&& b = a &&& (b % 256) := by
  rw [show (256 : Nat) = 2 ^ 8 from rfl, ← Nat.and_two_pow_sub_one_eq_mod, Nat.and_comm b (2 ^ 8 - 1), ← Nat.and_assoc, Nat.and_two_pow_sub_one_eq_mod a 8, Nat.mod_eq_of_lt (by omega)]
theorem and_self255 {a : Nat} (h : a < 256) : a &&& 255 = a := by
  rw [show (255 : Nat) = 2 ^ 8 - 1 from rfl, Nat.and_two_pow_sub_one_eq_mod, Nat.mod_eq_of_lt (by omega)]
theorem enc_0 {l : List Nat} : enc l = 0 ↔ l.length = 0 := by
  unfold enc
  split <;> omega
theorem enc_div {l : List Nat} : enc l / 256 = l.length := by
  unfold enc
  have := andL_lt l
  split <;> omega
theorem enc_mod {l : List Nat} (h : ¬ l.length = 0) : enc l % 256 = andL l := by
  unfold enc
  have := andL_lt l
  rw [if_neg h]
  omega
theorem enc_le {l : List Nat} : enc l ≤ 256 * l.length + 255 := by
  unfold enc
  have := andL_lt l
  split <;> omega
theorem fl_len {α : Type} (p q t : α → Prop) [DecidablePred p] [DecidablePred q] [DecidablePred t] : ∀ (L : List α), (∀ x ∈ L, (t x ↔ p x ∨ q x) ∧ ¬ (p x ∧ q x)) → (L.filter (fun x => decide (t x))).length = (L.filter (fun x => decide (p x))).length + (L.filter (fun x => decide (q x))).length := by
  intro L
  induction L with
  | nil => intro _; rfl
  | cons x L ih =>
    intro h
    have h1 := h x (List.mem_cons_self ..)
    have h2 := ih (fun y hy => h y (List.mem_cons_of_mem _ hy))
    rw [List.filter_cons, List.filter_cons, List.filter_cons]
    by_cases a : p x
    · have b : ¬ q x := fun b => h1.2 ⟨a, b⟩
      have c : t x := h1.1.mpr (Or.inl a)
      simp only [a, b, c, decide_true, decide_false, if_true, List.length_cons]
      simp only [Bool.false_eq_true, if_false]
      omega
    · by_cases b : q x
      · have c : t x := h1.1.mpr (Or.inr b)
        simp only [a, b, c, decide_true, decide_false, if_true, List.length_cons]
        simp only [Bool.false_eq_true, if_false]
        omega
      · have c : ¬ t x := fun c => (h1.1.mp c).elim a b
        simp only [a, b, c, decide_false]
        simp only [Bool.false_eq_true, if_false]
        exact h2
theorem fl_and {α : Type} (g : α → Nat) (p q t : α → Prop) [DecidablePred p] [DecidablePred q] [DecidablePred t] : ∀ (L : List α), (∀ x ∈ L, (t x ↔ p x ∨ q x) ∧ ¬ (p x ∧ q x)) → andL ((L.filter (fun x => decide (t x))).map g) = andL ((L.filter (fun x => decide (p x))).map g) &&& andL ((L.filter (fun x => decide (q x))).map g) := by
  intro L
  induction L with
  | nil => intro _; show (255 : Nat) = 255 &&& 255; decide
  | cons x L ih =>
    intro h
    have h1 := h x (List.mem_cons_self ..)
    have h2 := ih (fun y hy => h y (List.mem_cons_of_mem _ hy))
    rw [List.filter_cons, List.filter_cons, List.filter_cons]
    by_cases a : p x
    · have b : ¬ q x := fun b => h1.2 ⟨a, b⟩
      have c : t x := h1.1.mpr (Or.inl a)
      simp only [a, b, c, decide_true, decide_false, if_true, List.map_cons]
      simp only [Bool.false_eq_true, if_false]
      show g x &&& andL _ = (g x &&& andL _) &&& andL _
      rw [h2, Nat.and_assoc]
    · by_cases b : q x
      · have c : t x := h1.1.mpr (Or.inr b)
        simp only [a, b, c, decide_true, decide_false, if_true, List.map_cons]
        simp only [Bool.false_eq_true, if_false]
        show g x &&& andL _ = andL _ &&& (g x &&& andL _)
        rw [h2, ← Nat.and_assoc, ← Nat.and_assoc, Nat.and_comm (g x)]
      · have c : ¬ t x := fun c => (h1.1.mp c).elim a b
        simp only [a, b, c, decide_false]
        simp only [Bool.false_eq_true, if_false]
        exact h2
theorem fl_c {α : Type} {p q : α → Prop} [DecidablePred p] [DecidablePred q] {L : List α} (h : ∀ x ∈ L, (p x ↔ q x)) : L.filter (fun x => decide (p x)) = L.filter (fun x => decide (q x)) := List.filter_congr (fun x hx => decide_eq_decide.mpr (h x hx))
theorem fl_e {α : Type} {p : α → Prop} [DecidablePred p] {L : List α} (h : ∀ x ∈ L, ¬ p x) : L.filter (fun x => decide (p x)) = [] := List.filter_eq_nil_iff.mpr (fun x hx => by simpa using h x hx)
theorem rng_sel (k : Nat) : ∀ n, (List.range n).filter (fun j => decide (j = k)) = if k < n then [k] else []
  | 0 => rfl
  | n + 1 => by
    rw [List.range_succ, List.filter_append, rng_sel k n]
    by_cases h : n = k
    · subst h
      rw [if_neg (by omega), if_pos (by omega)]
      simp
    · by_cases h2 : k < n
      · rw [if_pos h2, if_pos (by omega)]
        simp [h]
      · rw [if_neg h2, if_neg (by omega)]
        simp [h]
theorem stkT_sel (c : RS → Prop) [DecidablePred c] {k : Nat} (hk : k < R.2.2.2.2.length) : ∀ L : List RS, (stkT R L).filter (fun y => decide (c y.1 ∧ y.2 = k)) = (L.filter (fun x => decide (c x))).map (fun x => (x, k))
  | [] => rfl
  | x :: L => by
    have e : stkT R (x :: L) = (List.range R.2.2.2.2.length).map (fun k => (x, k)) ++ stkT R L := rfl
    rw [e, List.filter_append, stkT_sel c hk L, List.filter_map, List.filter_cons]
    by_cases h : c x
    · have e2 : ((fun y : RS × Nat => decide (c y.1 ∧ y.2 = k)) ∘ fun k => (x, k)) = fun j => decide (j = k) := by
        funext j
        simp [h]
      rw [e2, rng_sel, if_pos hk, if_pos (by simp [h])]
      rfl
    · have e2 : ((fun y : RS × Nat => decide (c y.1 ∧ y.2 = k)) ∘ fun k => (x, k)) = fun j => false := by
        funext j
        simp [h]
      rw [e2, if_neg (by simp [h])]
      simp
theorem mem_stkT {y : RS × Nat} : y ∈ stkT R L ↔ y.1 ∈ L ∧ y.2 < R.2.2.2.2.length := by
  unfold stkT
  rw [List.mem_flatMap]
  constructor
  · rintro ⟨x, hx, h⟩
    obtain ⟨k, hk, rfl⟩ := List.mem_map.mp h
    exact ⟨hx, List.mem_range.mp hk⟩
  · rintro ⟨h1, h2⟩
    exact ⟨y.1, h1, List.mem_map.mpr ⟨y.2, List.mem_range.mpr h2, rfl⟩⟩
theorem stkT_len : ∀ L : List RS, (stkT R L).length = L.length * R.2.2.2.2.length
  | [] => by simp [stkT]
  | x :: L => by
    have e : stkT R (x :: L) = (List.range R.2.2.2.2.length).map (fun k => (x, k)) ++ stkT R L := rfl
    rw [e, List.length_append, stkT_len L, List.length_map, List.length_range, List.length_cons, Nat.succ_mul, Nat.add_comm]
theorem stkL_len (hk : R.2.2.2.2.length ≤ 8) : ∀ n, (stkL R s n).length ≤ 8 ^ n
  | 0 => Nat.le_refl 1
  | n + 1 => by
    have := stkL_len hk n
    show ((stkT R (stkL R s n)).map (stkN R)).length ≤ _
    rw [List.length_map, stkT_len, Nat.pow_succ]
    exact Nat.mul_le_mul this hk
theorem stkL_v (hv : vR 8 R) (hs : vS R.2.2.2.1 s) : ∀ n, ∀ x ∈ stkL R s n, vS R.2.2.2.1 x.1 ∧ x.2 < 2 ^ R.2.2.2.2.length
  | 0, x, h => by
    obtain rfl : x = (s, 0) := List.mem_singleton.mp h
    exact ⟨hs, Nat.two_pow_pos _⟩
  | n + 1, x, h => by
    obtain ⟨y, hy, rfl⟩ := List.mem_map.mp h
    obtain ⟨h1, h2⟩ := mem_stkT.mp hy
    obtain ⟨h3, h4⟩ := stkL_v hv hs n _ h1
    exact ⟨nx_v hv h2 h3, Nat.or_lt_two_pow h4 (Nat.pow_lt_pow_right (by decide) h2)⟩
theorem andL_or {b : Nat} (hb : b ||| 255 = 255) : ∀ l : List Nat, andL (l.map (fun x => x ||| b)) = andL l ||| b
  | [] => by rw [show andL [] = 255 from rfl, Nat.or_comm, hb]; rfl
  | a :: l => by
    show (a ||| b) &&& andL (l.map _) = (a &&& andL l) ||| b
    rw [andL_or hb l, Nat.or_comm (a &&& andL l), Nat.or_and_distrib_left, Nat.or_comm b a, Nat.or_comm b]
theorem b255 {k : Nat} (h : k < 8) : 2 ^ k ||| 255 = 255 := by
  rcases (show k = 0 ∨ k = 1 ∨ k = 2 ∨ k = 3 ∨ k = 4 ∨ k = 5 ∨ k = 6 ∨ k = 7 by omega) with rfl | rfl | rfl | rfl | rfl | rfl | rfl | rfl <;> rfl
theorem andL_bit : ∀ (l : List Nat) (b : Nat), (andL l).testBit b = true ↔ b < 8 ∧ ∀ x ∈ l, x.testBit b = true
  | [], b => by
    show (255 : Nat).testBit b = true ↔ _
    rw [show (255 : Nat) = 2 ^ 8 - 1 from rfl, Nat.testBit_two_pow_sub_one]
    simp
  | a :: l, b => by
    show (a &&& andL l).testBit b = true ↔ _
    rw [Nat.testBit_and, Bool.and_eq_true, andL_bit l b]
    simp only [List.mem_cons, forall_eq_or_imp]
    constructor
    · rintro ⟨h1, h2, h3⟩; exact ⟨h2, h1, h3⟩
    · rintro ⟨h2, h1, h3⟩; exact ⟨h1, h2, h3⟩
theorem enc_or {l : List Nat} {k : Nat} (h : k < 8) (hl : ¬ l.length = 0) : enc l ||| 2 ^ k = enc (l.map (fun x => x ||| 2 ^ k)) := by
  unfold enc
  rw [List.length_map, if_neg hl, if_neg hl, andL_or (b255 h), show (256 : Nat) = 2 ^ 8 from rfl, Nat.two_pow_add_eq_or_of_lt (andL_lt l), Nat.or_assoc, ← Nat.two_pow_add_eq_or_of_lt]
  exact Nat.or_lt_two_pow (andL_lt l) (Nat.pow_lt_pow_right (by decide) h)
def grp (m : Nat) (L : List RS) (p : Nat) : List Nat := (L.filter (fun x => decide (pl m x.1 = p))).map Prod.snd
abbrev lexB (f : St → Nat) (p k : Nat) (y : RS × Nat) : Prop := f y.1.1 < p ∨ (f y.1.1 = p ∧ y.2 < k)
def grpC (R : Rk) (f : St → Nat) (c : RS → Prop) [DecidablePred c] (L : List RS) (p k : Nat) : List Nat := ((stkT R L).filter (fun y => decide (c (stkN R y) ∧ lexB f p k y))).map (fun y => (stkN R y).2)
section GC
variable {f : St → Nat} {c d : RS → Prop} {p k N : Nat}
theorem grpC_0 [DecidablePred c] : grpC R f c L 0 0 = [] := by
  unfold grpC
  rw [fl_e (fun y _ h => by obtain ⟨-, h2⟩ := h; unfold lexB at h2; omega)]
  rfl
theorem grpC_K [DecidablePred c] : grpC R f c L p R.2.2.2.2.length = grpC R f c L (p + 1) 0 := by
  unfold grpC
  refine congrArg (List.map _) (fl_c (fun y hy => ?_))
  have h2 := (mem_stkT.mp hy).2
  unfold lexB
  constructor
  · rintro ⟨h1, h3⟩; exact ⟨h1, by omega⟩
  · rintro ⟨h1, h3⟩; exact ⟨h1, by omega⟩
theorem grpC_skip [DecidablePred c] (h : ∀ y ∈ stkT R L, f y.1.1 = p → ¬ c (stkN R y)) : grpC R f c L (p + 1) 0 = grpC R f c L p 0 := by
  unfold grpC
  refine congrArg (List.map _) (fl_c (fun y hy => ?_))
  have h3 := h y hy
  unfold lexB
  constructor
  · rintro ⟨h1, h4⟩
    exact ⟨h1, Or.inl (by rcases Nat.lt_or_ge (f y.1.1) p with h5 | h5; exact h5; exact absurd h1 (h3 (by omega)))⟩
  · rintro ⟨h1, h4⟩; exact ⟨h1, by omega⟩
theorem grpC_ne [DecidablePred c] (hq : ∀ y ∈ stkT R L, f y.1.1 = p → y.2 = k → ¬ c (stkN R y)) : grpC R f c L p (k + 1) = grpC R f c L p k := by
  unfold grpC
  refine congrArg (List.map _) (fl_c (fun y hy => ?_))
  have h2 := hq y hy
  unfold lexB
  constructor
  · rintro ⟨h1, h4⟩
    refine ⟨h1, ?_⟩
    rcases h4 with h4 | ⟨h4, h5⟩
    · exact Or.inl h4
    · refine Or.inr ⟨h4, ?_⟩
      rcases Nat.lt_or_ge y.2 k with h | h
      · exact h
      · exact absurd h1 (h2 h4 (by omega))
  · rintro ⟨h1, h4⟩; exact ⟨h1, by omega⟩
theorem grpC_eq [DecidablePred c] [DecidablePred d] (hk : k < R.2.2.2.2.length) (hq : ∀ y ∈ stkT R L, y.2 = k → ((f y.1.1 = p ∧ c (stkN R y)) ↔ d y.1)) : (grpC R f c L p (k + 1)).length = (grpC R f c L p k).length + (((L.filter (fun x => decide (d x))).map Prod.snd).map (fun x => x ||| 2 ^ k)).length ∧ andL (grpC R f c L p (k + 1)) = andL (grpC R f c L p k) &&& andL (((L.filter (fun x => decide (d x))).map Prod.snd).map (fun x => x ||| 2 ^ k)) := by
  have hs := stkT_sel (R := R) d hk L
  have e2 : ((L.filter (fun x => decide (d x))).map Prod.snd).map (fun x => x ||| 2 ^ k) = ((stkT R L).filter (fun y => decide (d y.1 ∧ y.2 = k))).map (fun y => (stkN R y).2) := by
    rw [hs, List.map_map, List.map_map]
    rfl
  have hd : ∀ y ∈ stkT R L, ((c (stkN R y) ∧ lexB f p (k + 1) y) ↔ (c (stkN R y) ∧ lexB f p k y) ∨ (d y.1 ∧ y.2 = k)) ∧ ¬ ((c (stkN R y) ∧ lexB f p k y) ∧ (d y.1 ∧ y.2 = k)) := by
    intro y hy
    have h2 := hq y hy
    unfold lexB
    refine ⟨⟨?_, ?_⟩, ?_⟩
    · rintro ⟨h1, h4⟩
      by_cases h : f y.1.1 = p ∧ y.2 = k
      · exact Or.inr ⟨(h2 h.2).mp ⟨h.1, h1⟩, h.2⟩
      · exact Or.inl ⟨h1, by omega⟩
    · rintro (⟨h1, h4⟩ | ⟨h1, h4⟩)
      · exact ⟨h1, by omega⟩
      · have := (h2 h4).mpr h1
        exact ⟨this.2, by omega⟩
    · rintro ⟨⟨h1, h4⟩, h5, h6⟩
      have := (h2 h6).mpr h5
      omega
  constructor
  · rw [e2]
    unfold grpC
    rw [List.length_map, List.length_map, List.length_map]
    exact fl_len _ _ _ _ hd
  · rw [e2]
    unfold grpC
    exact fl_and _ _ _ _ _ hd
theorem grpC_end [DecidablePred c] (h : ∀ x ∈ L, f x.1 < N) : grpC R f c L N 0 = (((stkT R L).map (stkN R)).filter (fun x => decide (c x))).map Prod.snd := by
  unfold grpC
  rw [List.filter_map, List.map_map]
  refine congrArg (List.map _) ?_
  refine (fl_c (q := fun y => c (stkN R y)) (fun y hy => ?_)).trans rfl
  have := h _ (mem_stkT.mp hy).1
  unfold lexB
  constructor
  · rintro ⟨h1, _⟩; exact h1
  · intro h1; exact ⟨h1, by omega⟩
theorem grpC_len [DecidablePred c] : (grpC R f c L p k).length ≤ L.length * R.2.2.2.2.length := by
  unfold grpC
  rw [List.length_map]
  refine Nat.le_trans (List.length_filter_le _ _) ?_
  rw [stkT_len]
  exact Nat.le_refl _
end GC
end SK
