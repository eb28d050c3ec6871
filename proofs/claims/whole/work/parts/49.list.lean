/-! ===== told numbers one behind the other ===== -/
def vis (R : Rk) : List Nat → St → Nat → Prop
  | [], _, n => n = 0
  | v :: tg, s, n => ∃ (ks : List Nat) (n' : Nat), okP R ks ∧ (goP R s ks).1 = v ∧ n = ks.length + n' ∧ vis R tg (goP R s ks) n'
def PV (R : Rk) (src : List En) (tg : List Nat) (n : Nat) : Prop := ∃ x ∈ src, ∃ n', vis R tg x.1 n' ∧ n = x.2.2.2 + n'
def LEP (P P' : Nat → Prop) : Prop := ∀ n, P n → ∃ n', n' ≤ n ∧ P' n'
def LEQ (P P' : Nat → Prop) : Prop := LEP P P' ∧ LEP P' P
/-- from src to those that show v -/
def Stg (R : Rk) (src : List En) (v : Nat) (src' : List En) (one : Bool) : Prop :=
  (∀ y ∈ src', y.1.1 = v ∧ ∃ x ∈ src, ∃ ks, okP R ks ∧ goP R x.1 ks = y.1 ∧ y.2.2.2 = x.2.2.2 + ks.length) ∧
  ∀ x ∈ src, ∀ ks, okP R ks → (goP R x.1 ks).1 = v → ∃ y ∈ src', y.2.2.2 ≤ x.2.2.2 + ks.length ∧ (one = false → ∃ ks', okP R ks' ∧ goP R y.1 ks' = goP R x.1 ks ∧ y.2.2.2 + ks'.length ≤ x.2.2.2 + ks.length)
def srt (q : List En) : Prop := ∀ (i j : Nat) (e e' : En), i ≤ j → q[i]? = some e → q[j]? = some e' → e.2.2.2 ≤ e'.2.2.2
section LI
variable {R : Rk} {s t : St} {src src' q : List En} {v n g : Nat} {tg : List Nat}
theorem LEP.rf {P : Nat → Prop} : LEP P P := fun n h => ⟨n, Nat.le_refl _, h⟩
theorem LEP.tr {P P' P'' : Nat → Prop} (h1 : LEP P P') (h2 : LEP P' P'') : LEP P P'' := fun n h => by
  obtain ⟨a, a1, a2⟩ := h1 n h
  obtain ⟨b, b1, b2⟩ := h2 a a2
  exact ⟨b, by omega, b2⟩
theorem LEQ.rf {P : Nat → Prop} : LEQ P P := ⟨LEP.rf, LEP.rf⟩
theorem LEQ.tr {P P' P'' : Nat → Prop} (h1 : LEQ P P') (h2 : LEQ P' P'') : LEQ P P'' := ⟨h1.1.tr h2.1, h2.2.tr h1.2⟩
theorem LeastN.eq {P P' : Nat → Prop} {f : Int} (h : LeastN P f) (he : LEQ P P') : LeastN P' f := by
  rcases h with ⟨rfl, h⟩ | ⟨n, rfl, h1, h2⟩
  · refine Or.inl ⟨rfl, fun n hn => ?_⟩
    obtain ⟨a, -, a2⟩ := he.2 n hn
    exact h a a2
  · obtain ⟨a, a1, a2⟩ := he.1 n h1
    obtain ⟨b, b1, b2⟩ := he.2 a a2
    have h3 := h2 b b2
    have e : a = n := by omega
    rw [e] at a2
    refine Or.inr ⟨n, rfl, a2, fun k hk => ?_⟩
    obtain ⟨c, c1, c2⟩ := he.2 k hk
    have := h2 c c2
    omega
theorem vis_front (ks : List Nat) (hk : okP R ks) (s : St) (w : Nat) (tg : List Nat) {n : Nat} (h : vis R (w :: tg) (goP R s ks) n) : vis R (w :: tg) s (ks.length + n) := by
  obtain ⟨ks2, n2, a1, a2, a3, a4⟩ := h
  refine ⟨ks ++ ks2, n2, okP_cat hk a1, by rw [goP_cat]; exact a2, by rw [List.length_append, a3]; omega, by rw [goP_cat]; exact a4⟩
theorem Stg.leq {one : Bool} (h : Stg R src v src' one) (ho : one = true → tg = []) : LEQ (PV R src (v :: tg)) (PV R src' tg) := by
  constructor
  · rintro n ⟨x, hx, n', ⟨ks, n2, a1, a2, a3, a4⟩, hn⟩
    obtain ⟨y, y1, y2, y3⟩ := h.2 x hx ks a1 a2
    cases tg with
    | nil =>
      have e : n2 = 0 := a4
      exact ⟨y.2.2.2, by omega, y, y1, 0, rfl, rfl⟩
    | cons w tg =>
      have hof : one = false := by
        cases one with
        | false => rfl
        | true => exact absurd (ho rfl) (by simp)
      obtain ⟨ks', b1, b2, b3⟩ := y3 hof
      have h5 := vis_front ks' b1 y.1 w tg (n := n2) (by rw [b2]; exact a4)
      exact ⟨y.2.2.2 + (ks'.length + n2), by omega, y, y1, _, h5, rfl⟩
  · rintro n ⟨y, hy, n', hv, hn⟩
    obtain ⟨y1, x, x1, ks, x2, x3, x4⟩ := h.1 y hy
    exact ⟨n, Nat.le_refl _, x, x1, ks.length + n', ⟨ks, n', x2, by rw [x3]; exact y1, rfl, by rw [x3]; exact hv⟩, by omega⟩
theorem PV_dup (h : ∀ x ∈ src, x.1.1 = v) : LEQ (PV R src (v :: tg)) (PV R src tg) := by
  constructor
  · rintro n ⟨x, hx, n', ⟨ks, n2, a1, a2, a3, a4⟩, hn⟩
    cases tg with
    | nil => exact ⟨x.2.2.2, by omega, x, hx, 0, rfl, rfl⟩
    | cons w tg =>
      exact ⟨x.2.2.2 + (ks.length + n2), by omega, x, hx, _, vis_front ks a1 x.1 w tg a4, rfl⟩
  · rintro n ⟨x, hx, n', hv, hn⟩
    exact ⟨n, Nat.le_refl _, x, hx, n', ⟨[], n', fun k hk => absurd hk List.not_mem_nil, h x hx, by show n' = 0 + n'; omega, hv⟩, hn⟩
theorem PV_end {e : En} (h0 : src[0]? = some e) (hs : srt src) : LeastN (PV R src []) e.2.2.2 := by
  refine Or.inr ⟨e.2.2.2, rfl, ⟨e, List.mem_of_getElem? h0, 0, rfl, rfl⟩, ?_⟩
  rintro n ⟨x, hx, n', hv, hn⟩
  obtain ⟨j, hj⟩ := List.getElem?_of_mem hx
  have := hs 0 j e x (Nat.zero_le _) h0 hj
  omega
theorem PV_nil : LeastN (PV R [] tg) (-1) := Or.inl ⟨rfl, by rintro n ⟨x, hx, _⟩; exact absurd hx List.not_mem_nil⟩
/-- a way through labels that are closed up to U comes to one that shows g -/
theorem wlk {A : St → Nat → Prop} {U : Nat} (h1 : ∀ t d k, A t d → t.1 ≠ g → k < R.2.2.2.2.length → (∃ d', A (nx R t k) d' ∧ d' ≤ d + 1) ∨ U ≤ d + 1) : ∀ (ks : List Nat) (t : St) (d : Nat), A t d → okP R ks → (goP R t ks).1 = g → (∃ t' d' ks', A t' d' ∧ t'.1 = g ∧ okP R ks' ∧ goP R t' ks' = goP R t ks ∧ d' + ks'.length ≤ d + ks.length) ∨ U ≤ d + ks.length
  | ks, t, d, h, ho, hg => by
    by_cases ht : t.1 = g
    · exact Or.inl ⟨t, d, ks, h, ht, ho, rfl, Nat.le_refl _⟩
    · cases ks with
      | nil => exact absurd hg ht
      | cons k ks =>
        obtain ⟨hk, ho2⟩ := okP_tl ho
        rcases h1 t d k h ht hk with ⟨d', q1, q2⟩ | q
        · rcases wlk h1 ks (nx R t k) d' q1 ho2 hg with ⟨t', d2, ks', b1, b2, b3, b4, b5⟩ | b
          · exact Or.inl ⟨t', d2, ks', b1, b2, b3, b4, by rw [List.length_cons]; omega⟩
          · exact Or.inr (by rw [List.length_cons]; omega)
        · exact Or.inr (by rw [List.length_cons]; omega)
/-- how many states show one number -/
theorem show_len {m : Nat} (hm : 0 < m) (hm2 : m ≤ 100) (hV : bfV m q) (hg : ∀ e ∈ q, e.1.1 = g) : q.length ≤ 602 := by
  obtain ⟨f, hf⟩ : ∃ f : St → Nat, f = fun s => 2 * (if s.2.1 = 0 then 0 else 1 + (s.2.1 - 1) * m + s.2.2.1) + s.2.2.2 := ⟨_, rfl⟩
  have h1 := nd_len 602 (q.map (fun e => f e.1)) (by
    have h2 : (q.map (fun e => f e.1)) = (q.map (fun e => e.1)).map f := by rw [List.map_map]; rfl
    rw [h2, List.nodup_iff_pairwise_ne, List.pairwise_map]
    have h3 := List.nodup_iff_pairwise_ne.mp hV.1
    refine List.Pairwise.imp_of_mem ?_ h3
    intro a b ha hb hne he
    obtain ⟨x, hx, rfl⟩ := List.mem_map.mp ha
    obtain ⟨y, hy, rfl⟩ := List.mem_map.mp hb
    refine hne (pl_inj hm (hV.2 x hx) (hV.2 y hy) ?_)
    have e1 := hg x hx
    have e2 := hg y hy
    have t1 := (hV.2 x hx).2.2.2.2
    have t2 := (hV.2 y hy).2.2.2.2
    rw [hf] at he
    dsimp only at he
    unfold pl
    rw [e1, e2]
    have e3 : x.1.2.2.2 = y.1.2.2.2 := by omega
    have e4 : (if x.1.2.1 = 0 then 0 else 1 + (x.1.2.1 - 1) * m + x.1.2.2.1) = (if y.1.2.1 = 0 then 0 else 1 + (y.1.2.1 - 1) * m + y.1.2.2.1) := by omega
    rw [e3, e4]) (fun x hx => by
    obtain ⟨e, he, rfl⟩ := List.mem_map.mp hx
    obtain ⟨s1, s2, s3, s4, s5⟩ := hV.2 e he
    rw [hf]
    dsimp only
    have hw : (if e.1.2.1 = 0 then 0 else 1 + (e.1.2.1 - 1) * m + e.1.2.2.1) ≤ 3 * m := by
      split
      · omega
      · have : (e.1.2.1 - 1) * m ≤ 2 * m := Nat.mul_le_mul_right _ (by omega)
        omega
    omega)
  rwa [List.length_map] at h1
theorem getQ_app {e x : En} {j : Nat} (hj : (q ++ [x])[j]? = some e) : (j < q.length ∧ q[j]? = some e) ∨ (j = q.length ∧ e = x) := by
  rcases Nat.lt_or_ge j q.length with h1 | h1
  · rw [List.getElem?_append_left h1] at hj
    exact Or.inl ⟨h1, hj⟩
  · rw [List.getElem?_append_right h1] at hj
    have hz : j - q.length = 0 := by
      rcases Nat.eq_zero_or_pos (j - q.length) with h | h
      · exact h
      · rw [List.getElem?_eq_none (by simp; omega)] at hj; cases hj
    rw [hz] at hj
    exact Or.inr ⟨by omega, by simpa using hj.symm⟩
theorem srt_add {x : En} (h : srt q) (hx : ∀ e ∈ q, e.2.2.2 ≤ x.2.2.2) : srt (q ++ [x]) := fun i j e e' hij he he' => by
  rcases getQ_app he with ⟨i1, i2⟩ | ⟨i1, i2⟩
  · rcases getQ_app he' with ⟨j1, j2⟩ | ⟨j1, j2⟩
    · exact h i j e e' hij i2 j2
    · rw [j2]; exact hx e (List.mem_of_getElem? i2)
  · rcases getQ_app he' with ⟨j1, j2⟩ | ⟨j1, j2⟩
    · omega
    · rw [i2, j2]; exact Nat.le_refl _
end LI
