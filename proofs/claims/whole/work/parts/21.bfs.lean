/-! ===== a search in breadth, as lists ===== -/
/-- state, place of the one ahead of it, key, strokes -/
abbrev En : Type := St × Nat × Nat × Nat
def en0 : En := ((0, 0, 0, 0), 0, 0, 0)
def nx (R : Rk) (s : St) (k : Nat) : St := rk_str R s (R.2.2.2.2.getD k (0, 0, 0, 0))
def bfK (R : Rk) (q : List En) (i k : Nat) : List En := if q.any (fun x => decide (x.1 = nx R (q.getD i en0).1 k)) = true then q else q ++ [(nx R (q.getD i en0).1 k, i, k, (q.getD i en0).2.2.2 + 1)]
def bfRow (R : Rk) (q : List En) (i : Nat) : Nat → List En
  | 0 => q
  | k + 1 => bfK R (bfRow R q i k) i k
def bfRun (R : Rk) : Nat → Nat → List En → List En
  | 0, _, q => q
  | f + 1, i, q => if i < q.length then bfRun R f (i + 1) (bfRow R q i R.2.2.2.2.length) else q
def bfAll (R : Rk) (s : St) : List En := bfRun R 60300 0 [(s, 0, 0, 0)]
/-- the first that shows v -/
def bfF (v : Nat) (q : List En) : Option En := q.find? (fun e => decide (e.1.1 = v))
def fewS (R : Rk) (s : St) (v : Nat) : Int := match bfF v (bfAll R s) with
  | some e => e.2.2.2
  | none => -1
section BF
variable {R : Rk} {q : List En} {i k n : Nat} {s : St}
theorem nd_len : ∀ (N : Nat) (l : List Nat), l.Nodup → (∀ x ∈ l, x < N) → l.length ≤ N
  | 0, l, _, h => by
    cases l with
    | nil => exact Nat.le_refl _
    | cons a t => exact absurd (h a List.mem_cons_self) (by omega)
  | N + 1, l, hd, h => by
    by_cases hm : N ∈ l
    · have h1 := nd_len N (l.erase N) (hd.erase N) (fun x hx => by
        have h2 := (List.Nodup.mem_erase_iff hd).mp hx
        have h3 := h x h2.2
        have h4 := h2.1
        omega)
      rw [List.length_erase_of_mem hm] at h1
      omega
    · have h1 := nd_len N l hd (fun x hx => by
        have h3 := h x hx
        have h4 : x ≠ N := fun e => hm (e ▸ hx)
        omega)
      omega
theorem pl_lt {m : Nat} (hm : 0 < m) (hs : vS m s) : pl m s < nPl m := by
  obtain ⟨s1, s2, s3, s4, s5⟩ := hs
  unfold pl nPl
  have hw : (if s.2.1 = 0 then 0 else 1 + (s.2.1 - 1) * m + s.2.2.1) ≤ 3 * m := by
    split
    · omega
    · have : (s.2.1 - 1) * m ≤ 2 * m := Nat.mul_le_mul_right _ (by omega)
      omega
  have h1 : (if s.2.1 = 0 then 0 else 1 + (s.2.1 - 1) * m + s.2.2.1) * m ≤ 3 * m * m := Nat.mul_le_mul_right _ hw
  have h2 : 2 * m * (1 + 3 * m) = 2 * m + 2 * (3 * m * m) := by
    rw [Nat.mul_add, Nat.mul_one, Nat.mul_assoc 2 m, Nat.mul_comm m (3 * m)]
  omega
theorem nPl_le {m : Nat} (h : m ≤ 100) : nPl m ≤ 60200 := by
  unfold nPl
  have : 2 * m * (1 + 3 * m) ≤ 200 * 301 := Nat.mul_le_mul (by omega) (by omega)
  omega
theorem stAt_pl {m : Nat} (hm : 0 < m) (hs : vS m s) : stAt m (pl m s) = s := by
  obtain ⟨s1, s2, s3, s4, s5⟩ := hs
  have e1 : pl m s % 2 = s.2.2.2 := by unfold pl; omega
  have e2 : pl m s / 2 = (if s.2.1 = 0 then 0 else 1 + (s.2.1 - 1) * m + s.2.2.1) * m + s.1 := by unfold pl; omega
  have e3 : pl m s / 2 % m = s.1 := by rw [e2, Nat.add_comm, Nat.add_mul_mod_self_right, Nat.mod_eq_of_lt (by omega)]
  have e4 : pl m s / 2 / m = if s.2.1 = 0 then 0 else 1 + (s.2.1 - 1) * m + s.2.2.1 := by
    rw [e2, Nat.add_comm, Nat.add_mul_div_right _ _ hm, Nat.div_eq_of_lt (by omega), Nat.zero_add]
  unfold stAt
  rw [e1, e3, e4]
  obtain ⟨a, b, c, d⟩ := s
  dsimp only at *
  by_cases hb : b = 0
  · rw [if_pos hb, if_pos rfl, hb, s4 hb]
  · rw [if_neg hb, if_neg (by omega)]
    rw [show 1 + (b - 1) * m + c - 1 = c + (b - 1) * m by omega, Nat.add_mul_div_right _ _ hm, Nat.add_mul_mod_self_right, Nat.div_eq_of_lt (by omega), Nat.mod_eq_of_lt (by omega)]
    rw [show 1 + (0 + (b - 1)) = b by omega]
theorem pl_inj {m : Nat} {s t : St} (hm : 0 < m) (hs : vS m s) (ht : vS m t) (h : pl m s = pl m t) : s = t := by
  rw [← stAt_pl hm hs, ← stAt_pl hm ht, h]
/-- a queue of states that can be, each once -/
def bfV (m : Nat) (q : List En) : Prop := (q.map (fun e => e.1)).Nodup ∧ ∀ e ∈ q, vS m e.1
theorem bfV.len {m : Nat} (hm : 0 < m) (h : bfV m q) : q.length ≤ nPl m := by
  have h1 := nd_len (nPl m) (q.map (fun e => pl m e.1)) (by
    have h2 : (q.map (fun e => pl m e.1)) = (q.map (fun e => e.1)).map (pl m) := by rw [List.map_map]; rfl
    rw [h2, List.nodup_iff_pairwise_ne, List.pairwise_map]
    have h3 := List.nodup_iff_pairwise_ne.mp h.1
    refine List.Pairwise.imp_of_mem ?_ h3
    intro a b ha hb hne he
    obtain ⟨x, hx, rfl⟩ := List.mem_map.mp ha
    obtain ⟨y, hy, rfl⟩ := List.mem_map.mp hb
    exact hne (pl_inj hm (h.2 x hx) (h.2 y hy) he)) (fun x hx => by
    obtain ⟨e, he, rfl⟩ := List.mem_map.mp hx
    exact pl_lt hm (h.2 e he))
  rwa [List.length_map] at h1
theorem bfK_cases : (bfK R q i k = q ∧ ∃ e ∈ q, e.1 = nx R (q.getD i en0).1 k) ∨ (bfK R q i k = q ++ [(nx R (q.getD i en0).1 k, i, k, (q.getD i en0).2.2.2 + 1)] ∧ ∀ e ∈ q, e.1 ≠ nx R (q.getD i en0).1 k) := by
  unfold bfK
  by_cases h : q.any (fun x => decide (x.1 = nx R (q.getD i en0).1 k)) = true
  · refine Or.inl ⟨by rw [if_pos h], ?_⟩
    obtain ⟨e, h1, h2⟩ := List.any_eq_true.mp h
    exact ⟨e, h1, of_decide_eq_true h2⟩
  · refine Or.inr ⟨by rw [if_neg h], fun e he hh => h (List.any_eq_true.mpr ⟨e, he, decide_eq_true hh⟩)⟩
theorem bfK_pre : q <+: bfK R q i k := by
  rcases bfK_cases (R := R) (q := q) (i := i) (k := k) with ⟨h, -⟩ | ⟨h, -⟩
  · rw [h]; exact List.prefix_rfl
  · rw [h]; exact List.prefix_append _ _
theorem bfRow_pre : ∀ k, q <+: bfRow R q i k
  | 0 => List.prefix_rfl
  | k + 1 => (bfRow_pre k).trans bfK_pre
theorem bfRun_pre : ∀ f i q, q <+: bfRun R f i q
  | 0, _, _ => List.prefix_rfl
  | f + 1, i, q => by
    unfold bfRun
    split
    · exact (bfRow_pre _).trans (bfRun_pre f _ _)
    · exact List.prefix_rfl
theorem pre_getD {a b : List En} (h : a <+: b) (hi : i < a.length) : b.getD i en0 = a.getD i en0 := by
  obtain ⟨t, rfl⟩ := h
  rw [List.getD, List.getD, List.getElem?_append_left hi]
theorem getD_mem (hi : i < q.length) : q.getD i en0 ∈ q := by
  rw [List.getD, List.getElem?_eq_getElem hi]
  exact List.getElem_mem hi
theorem nx_v (hR : vR n R) (hk : k < R.2.2.2.2.length) (hs : vS R.2.2.2.1 s) : vS R.2.2.2.1 (nx R s k) := by
  unfold nx
  rw [List.getD, List.getElem?_eq_getElem hk]
  exact rk_str_v hR (List.getElem_mem hk) hs
theorem bfK_V (hR : vR n R) (hk : k < R.2.2.2.2.length) (hi : i < q.length) (h : bfV R.2.2.2.1 q) : bfV R.2.2.2.1 (bfK R q i k) := by
  rcases bfK_cases (R := R) (q := q) (i := i) (k := k) with ⟨e, -⟩ | ⟨e, hne⟩
  · rw [e]; exact h
  · rw [e]
    refine ⟨?_, fun x hx => ?_⟩
    · rw [List.map_append, List.nodup_append]
      refine ⟨h.1, by simp, fun a ha b hb => ?_⟩
      obtain ⟨x, hx, rfl⟩ := List.mem_map.mp ha
      have hb2 : b = nx R (q.getD i en0).1 k := by simpa using hb
      rw [hb2]
      exact hne x hx
    · rcases List.mem_append.mp hx with hx | hx
      · exact h.2 x hx
      · have e2 : x = (nx R (q.getD i en0).1 k, i, k, (q.getD i en0).2.2.2 + 1) := by simpa using hx
        rw [e2]
        exact nx_v hR hk (h.2 _ (getD_mem hi))
theorem bfRow_V (hR : vR n R) (hi : i < q.length) (h : bfV R.2.2.2.1 q) : ∀ k, k ≤ R.2.2.2.2.length → bfV R.2.2.2.1 (bfRow R q i k)
  | 0, _ => h
  | k + 1, hk => bfK_V hR (by omega) (Nat.lt_of_lt_of_le hi (bfRow_pre k).length_le) (bfRow_V hR hi h k (by omega))
/-- of what was first met -/
theorem bfF_app {v : Nat} {a b : List En} : bfF v (a ++ b) = (bfF v a).or (bfF v b) := List.find?_append
theorem bfF_pre {v : Nat} {a b : List En} {e : En} (h : a <+: b) (hf : bfF v a = some e) : bfF v b = some e := by
  obtain ⟨t, rfl⟩ := h
  rw [bfF_app, hf]
  rfl
end BF
