/-! ===== one key more: what it is ===== -/
def addK (R : Rk) (k : Ky) : Rk := (R.1, R.2.1, R.2.2.1, R.2.2.2.1, R.2.2.2.2 ++ [k])
def candD (b c : Nat) : Nat := if c < b then 0 else c - b + 1
def candF (b c : Nat) : Int := if c < b then c else -1
def candK (b c : Nat) : Ky := (candD b c, 1, candF b c, -1)
def sumT (fw : Nat → Int) : List Nat → Int
  | [] => 0
  | v :: l => (if fw v = -1 then 99 else fw v) + sumT fw l
def moI (f : Nat → Int) : Nat → Nat
  | 0 => 0
  | k + 1 => if k = 0 then 0 else if f k < f (moI f k) then k else moI f k
def moF (R : Rk) (s : St) (tg : List Nat) (c : Nat) : Int := sumT (fewS (addK R (candK R.2.1 c)) s) tg
def moAns (R : Rk) (s : St) (tg : List Nat) (x : Int) : Int32 := if x < 0 ∨ 2 < x then OUT else if R.2.2.2.1 = 0 then NOTN else if x = 2 then iz (moF R s tg (moI (moF R s tg) (R.2.1 + 4))) else if x = 0 then nI (candD R.2.1 (moI (moF R s tg) (R.2.1 + 4))) else iz (candF R.2.1 (moI (moF R s tg) (R.2.1 + 4)))
section MO
variable {R : Rk} {s : St} {k : Ky} {q : List En} {i n c : Nat}
theorem nx_add {j : Nat} (hj : j < R.2.2.2.2.length) : nx (addK R k) s j = nx R s j := by
  unfold nx
  show rk_str (addK R k) s ((R.2.2.2.2 ++ [k]).getD j (0, 0, 0, 0)) = _
  rw [List.getD, List.getD, List.getElem?_append_left hj]
  rfl
theorem bfK_add {j : Nat} (hj : j < R.2.2.2.2.length) : bfK (addK R k) q i j = bfK R q i j := by
  unfold bfK
  rw [nx_add hj]
theorem bfRow_add : ∀ j, j ≤ R.2.2.2.2.length → bfRow (addK R k) q i j = bfRow R q i j
  | 0, _ => rfl
  | j + 1, hj => by
    show bfK (addK R k) (bfRow (addK R k) q i j) i j = bfK R (bfRow R q i j) i j
    rw [bfRow_add j (by omega), bfK_add (by omega)]
theorem bfRow_has : ∀ (n j : Nat), j < n → i < q.length → ∃ e ∈ bfRow R q i n, e.1 = nx R (q.getD i en0).1 j
  | n + 1, j, hj, hi => by
    have hg : (bfRow R q i n).getD i en0 = q.getD i en0 := pre_getD (bfRow_pre n) hi
    show ∃ e ∈ bfK R (bfRow R q i n) i n, _
    rcases Nat.lt_or_ge j n with h | h
    · obtain ⟨e, he, h2⟩ := bfRow_has n j h hi
      exact ⟨e, bfK_pre.subset he, h2⟩
    · have e : j = n := by omega
      subst e
      rcases bfK_cases (R := R) (q := bfRow R q i j) (i := i) (k := j) with ⟨e1, e, he, h2⟩ | ⟨e1, -⟩
      · rw [hg] at h2
        exact ⟨e, by rw [e1]; exact he, h2⟩
      · rw [e1, hg]
        exact ⟨_, List.mem_append_right _ (List.mem_singleton.mpr rfl), rfl⟩
theorem bfRow_dup {j : Nat} (hj : j < R.2.2.2.2.length) (hk : nx (addK R k) (q.getD i en0).1 R.2.2.2.2.length = nx R (q.getD i en0).1 j) (hi : i < q.length) : bfRow (addK R k) q i (R.2.2.2.2.length + 1) = bfRow R q i R.2.2.2.2.length := by
  have hg : (bfRow R q i R.2.2.2.2.length).getD i en0 = q.getD i en0 := pre_getD (bfRow_pre _) hi
  show bfK (addK R k) (bfRow (addK R k) q i R.2.2.2.2.length) i R.2.2.2.2.length = _
  rw [bfRow_add _ (Nat.le_refl _)]
  obtain ⟨e, he, h2⟩ := bfRow_has (R := R) (q := q) (i := i) R.2.2.2.2.length j hj hi
  rcases bfK_cases (R := addK R k) (q := bfRow R q i R.2.2.2.2.length) (i := i) (k := R.2.2.2.2.length) with ⟨e1, -⟩ | ⟨-, hn⟩
  · exact e1
  · exact absurd (by rw [hg, hk]; exact h2) (hn e he)
theorem bfRun_dup {j : Nat} (hj : j < R.2.2.2.2.length) (hk : ∀ t, nx (addK R k) t R.2.2.2.2.length = nx R t j) : ∀ f i q, bfRun (addK R k) f i q = bfRun R f i q
  | 0, _, _ => rfl
  | f + 1, i, q => by
    unfold bfRun
    by_cases h : i < q.length
    · rw [if_pos h, if_pos h, show (addK R k).2.2.2.2.length = R.2.2.2.2.length + 1 by show (R.2.2.2.2 ++ [k]).length = _; rw [List.length_append]; rfl, bfRow_dup hj (hk _) h, bfRun_dup hj hk f]
    · rw [if_neg h, if_neg h]
theorem few_dup {j v : Nat} (hj : j < R.2.2.2.2.length) (hk : ∀ t, nx (addK R k) t R.2.2.2.2.length = nx R t j) : fewS (addK R k) s v = fewS R s v := by
  unfold fewS bfAll
  rw [bfRun_dup hj hk]
/-- a key of the same kind and figure does the same -/
theorem nx_same {a b : Ky} {t : St} (h1 : a.1 = b.1) (h2 : a.2.2.1 = b.2.2.1) (h3 : a.1 < 6) : rk_str R t a = rk_str R t b := by
  unfold rk_str
  rw [← h1, ← h2]
  split
  · rfl
  · split
    · rfl
    · split
      · rfl
      · split
        · rfl
        · exfalso; omega
theorem cand_dup (hh : hasK R.2.2.2.2 (candD R.2.1 c) (candF R.2.1 c) = true) (hc : c < R.2.1 + 4) {v : Nat} : fewS (addK R (candK R.2.1 c)) s v = fewS R s v := by
  unfold hasK at hh
  obtain ⟨k0, hm, h0⟩ := List.any_eq_true.mp hh
  obtain ⟨j, hj⟩ := List.getElem?_of_mem hm
  obtain ⟨hjl, hj2⟩ := List.getElem?_eq_some_iff.mp hj
  have h1 : k0.1 = candD R.2.1 c ∧ k0.2.2.1 = candF R.2.1 c := by simpa using h0
  have h6 : candD R.2.1 c < 6 := by
    unfold candD
    split <;> omega
  refine few_dup hjl (fun t => ?_)
  unfold nx
  have e1 : (addK R (candK R.2.1 c)).2.2.2.2.getD R.2.2.2.2.length (0, 0, 0, 0) = candK R.2.1 c := by
    show (R.2.2.2.2 ++ [candK R.2.1 c]).getD R.2.2.2.2.length (0, 0, 0, 0) = _
    rw [List.getD, List.getElem?_append_right (Nat.le_refl _), Nat.sub_self]
    rfl
  have e2 : R.2.2.2.2.getD j (0, 0, 0, 0) = k0 := by rw [List.getD, hj]; rfl
  rw [e1, e2]
  exact nx_same h1.1.symm h1.2.symm h6
theorem sumT_c {f g : Nat → Int} : ∀ {l : List Nat}, (∀ v ∈ l, f v = g v) → sumT f l = sumT g l
  | [], _ => rfl
  | v :: l, h => by
    show (if f v = -1 then 99 else f v) + sumT f l = (if g v = -1 then 99 else g v) + sumT g l
    rw [h v (List.mem_cons_self ..), sumT_c (fun w hw => h w (List.mem_cons_of_mem _ hw))]
theorem sumT_rng {f : Nat → Int} (h : ∀ v, -1 ≤ f v ∧ f v < 60201) : ∀ l : List Nat, 0 ≤ sumT f l ∧ sumT f l ≤ 60201 * l.length
  | [] => ⟨Int.le_refl 0, by simp [sumT]⟩
  | v :: l => by
    have h1 := h v
    have h2 := sumT_rng h l
    show 0 ≤ (if f v = -1 then 99 else f v) + sumT f l ∧ _
    rw [show sumT f (v :: l) = (if f v = -1 then 99 else f v) + sumT f l from rfl, List.length_cons]
    split <;> omega
theorem candK_v (h : vR 8 R) (hm : 0 < R.2.2.2.1) (hc : c < R.2.1 + 4) : vR 9 (addK R (candK R.2.1 c)) := by
  rcases h with e | ⟨v1, v2, v3, v4, v5, v6, v7, v8, v9⟩
  · rw [e] at hm; exact absurd hm (by decide)
  · refine Or.inr ⟨v1, v2, v3, v4, v5, v6, v7, ?_, fun k hk => ?_⟩
    · show (R.2.2.2.2 ++ [candK R.2.1 c]).length ≤ 9
      rw [List.length_append]
      show R.2.2.2.2.length + 1 ≤ 9
      omega
    · rcases List.mem_append.mp hk with hk | hk
      · exact v9 k hk
      · rw [List.mem_singleton.mp hk]
        unfold candK candD candF
        by_cases h : c < R.2.1
        · rw [if_pos h, if_pos h]
          exact ⟨by show 0 ≤ 7; omega, Nat.le_refl 1, by show 1 ≤ 99; omega, Or.inl ⟨rfl, by show (0 : Int) ≤ c; omega, by show (c : Int) < R.2.1; omega, rfl⟩⟩
        · rw [if_neg h, if_neg h]
          exact ⟨by show c - R.2.1 + 1 ≤ 7; omega, Nat.le_refl 1, by show 1 ≤ 99; omega, Or.inr (Or.inl ⟨by show 1 ≤ c - R.2.1 + 1; omega, by show c - R.2.1 + 1 ≤ 5; omega, rfl, rfl⟩)⟩
theorem moI_s {f : Nat → Int} {k : Nat} : moI f (k + 1) = if k = 0 then 0 else if f k < f (moI f k) then k else moI f k := rfl
theorem moI_lt {f : Nat → Int} : ∀ k, 0 < k → moI f k < k
  | k + 1, _ => by
    rw [moI_s]
    by_cases h : k = 0
    · rw [if_pos h]; omega
    · rw [if_neg h]
      have := moI_lt (f := f) k (by omega)
      split <;> omega
end MO
