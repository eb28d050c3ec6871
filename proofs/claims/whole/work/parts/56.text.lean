/-! ===== the text: what it tells ===== -/
def spn (p : Nat → Bool) (T : List Nat) (i : Nat) : Nat := i + ((T.drop i).takeWhile p).length
def isBl (c : Nat) : Bool := decide (c = 32)
def isLe (c : Nat) : Bool := decide (97 ≤ c ∧ c ≤ 122)
def isDi (c : Nat) : Bool := decide (48 ≤ c ∧ c ≤ 57)
def skp (T : List Nat) (i : Nat) : Nat := spn isBl T i
def wrd (T : List Nat) (p : Nat) : List Nat := (T.drop p).takeWhile isLe
def nv (T : List Nat) (p k : Nat) : Nat := ((T.drop p).take (min 3 k)).foldl (fun v c => 10 * v + (c - 48)) 0
def nmb (T : List Nat) (p : Nat) : Nat := nv T p (spn isDi T p - p)
def vT (T : List Nat) : Prop := T.length ≤ 400 ∧ ∀ c ∈ T, c < 256
abbrev Flt : Type := Nat × Nat
def bnd {α β : Type} (x : Flt ⊕ α) (f : α → Flt ⊕ β) : Flt ⊕ β := match x with
  | .inl e => .inl e
  | .inr a => f a
def Pn (T : List Nat) (lo hi i : Nat) : Flt ⊕ (Nat × Nat) := if spn isDi T (skp T i) = skp T i then .inl (1, skp T i) else if 3 < spn isDi T (skp T i) - skp T i ∨ nmb T (skp T i) < lo ∨ hi < nmb T (skp T i) then .inl (2, skp T i) else .inr (nmb T (skp T i), spn isDi T (skp T i))
def Pe (T : List Nat) (i : Nat) : Flt ⊕ Nat := if T[skp T i]? = some 59 then .inr (skp T i + 1) else .inl (1, skp T i)
def wds : List (List Nat) := [[100, 105, 97, 108], [114, 111, 117, 110, 100], [115, 116, 111, 112], [102, 105, 103, 117, 114, 101], [112, 108, 117, 115], [108, 101, 115, 115], [116, 105, 109, 101, 115], [105, 115], [99, 108, 101, 97, 114], [110, 111, 119], [115, 116, 117, 99, 107]]
def wd (i : Nat) : List Nat := wds.getD i []
def kdW (w : List Nat) : Int := if w = wd 3 then 0 else if w = wd 4 then 1 else if w = wd 5 then 2 else if w = wd 6 then 3 else if w = wd 7 then 4 else if w = wd 8 then 5 else if w = wd 9 then 6 else if w = wd 10 then 7 else -1
def dkW (w : List Nat) : Int := if w = wd 1 then 0 else if w = wd 2 then 1 else -1
def Pcost (T : List Nat) (i : Nat) : Flt ⊕ (Nat × Nat) := bnd (Pn T 1 99 i) (fun c => bnd (Pe T c.2) (fun j => .inr (c.1, j)))
def Pnow (T : List Nat) (m i : Nat) : Flt ⊕ (Ky × Nat) := if 1 ≤ kdW (wrd T (skp T i)) ∧ kdW (wrd T (skp T i)) ≤ 3 then bnd (Pn T 0 (m - 1) (skp T i + (wrd T (skp T i)).length)) (fun v => bnd (Pcost T v.2) (fun c => .inr ((6, c.1, (v.1 : Int), kdW (wrd T (skp T i))), c.2))) else .inl (1, skp T i)
/-- a key's rest, behind its word w, whose end is j -/
def Pkr (T : List Nat) (b m : Nat) (w : List Nat) (j : Nat) : Flt ⊕ (Ky × Nat) :=
  if kdW w = 6 then Pnow T m j else
  if kdW w = 0 then bnd (Pn T 0 (b - 1) j) (fun d => bnd (Pcost T d.2) (fun c => .inr ((0, c.1, (d.1 : Int), -1), c.2))) else
  if kdW w = 7 then bnd (Pn T 0 (b - 1) j) (fun d => bnd (Pn T 0 (b - 1) d.2) (fun e => bnd (Pcost T e.2) (fun c => .inr ((7, c.1, (d.1 : Int), (e.1 : Int)), c.2)))) else
  bnd (Pcost T j) (fun c => .inr (((kdW w).toNat, c.1, -1, -1), c.2))
def Pkey (T : List Nat) (b m n i : Nat) : Flt ⊕ (Ky × Nat) :=
  if wrd T (skp T i) = wd 0 then .inl (3, skp T i) else if kdW (wrd T (skp T i)) = -1 then .inl (1, skp T i) else if 8 ≤ n then .inl (3, skp T i) else
  Pkr T b m (wrd T (skp T i)) (skp T i + (wrd T (skp T i)).length)
def Pdial (T : List Nat) (i : Nat) : Flt ⊕ (Rk × Nat) := if dkW (wrd T (skp T i)) = -1 then .inl (1, skp T i) else
  bnd (Pn T 2 10 (skp T i + (wrd T (skp T i)).length)) (fun b => bnd (Pn T 1 6 b.2) (fun f => if 100 < b.1 ^ f.1 then .inl (2, skp T b.2) else bnd (Pe T f.2) (fun j => .inr ((dkW (wrd T (skp T i)), b.1, f.1, b.1 ^ f.1, []), j))))
def Pkeys (T : List Nat) : Nat → Rk → Nat → Flt ⊕ Rk
  | 0, _, _ => .inl (0, 0)
  | f + 1, R, i => if T.length ≤ skp T i then .inr R else bnd (Pkey T R.2.1 R.2.2.2.1 R.2.2.2.2.length i) (fun k => Pkeys T f (addK R k.1) k.2)
def Pread (T : List Nat) : Flt ⊕ Rk := if T.length ≤ skp T 0 then .inr (-1, 0, 0, 0, []) else if wrd T (skp T 0) = wd 0 then bnd (Pdial T (skp T 0 + 4)) (fun x => Pkeys T 9 x.1 x.2) else .inl (1, skp T 0)
section TX
variable {T : List Nat} {p : Nat → Bool} {i j k n m b lo hi : Nat}
theorem spn_step (h : i < T.length) (hp : p T[i] = true) : spn p T i = spn p T (i + 1) := by
  unfold spn
  rw [List.drop_eq_getElem_cons h, List.takeWhile_cons, if_pos hp, List.length_cons]
  omega
theorem spn_stop (h : i < T.length) (hp : p T[i] = false) : spn p T i = i := by
  unfold spn
  rw [List.drop_eq_getElem_cons h, List.takeWhile_cons, if_neg (by rw [hp]; decide)]
  rfl
theorem spn_end (h : T.length ≤ i) : spn p T i = i := by
  unfold spn
  rw [List.drop_of_length_le h]
  rfl
theorem spn_ge : i ≤ spn p T i := Nat.le_add_right _ _
theorem spn_le (h : i ≤ T.length) : spn p T i ≤ T.length := by
  unfold spn
  have := (List.takeWhile_prefix p (l := T.drop i)).length_le
  rw [List.length_drop] at this
  omega
theorem spn_at (h : spn p T i < T.length) : p (T[spn p T i]) = false := by
  rcases Nat.lt_or_ge i T.length with h1 | h1
  · have ind : ∀ d i, T.length - i = d → (h : spn p T i < T.length) → p (T[spn p T i]) = false := by
      intro d
      induction d with
      | zero =>
        intro i hd h
        have := spn_ge (p := p) (T := T) (i := i)
        omega
      | succ d ih =>
        intro i hd h
        have hi : i < T.length := by omega
        cases hp : p T[i] with
        | false =>
          have e := spn_stop hi hp
          simp only [e]
          exact hp
        | true =>
          have e := spn_step hi hp
          simp only [e]
          exact ih (i + 1) (by omega) (by rw [← e]; exact h)
    exact ind _ i rfl h
  · rw [spn_end h1] at h
    omega
theorem spn_pos (h : i < T.length) : spn p T i = i ↔ p T[i] = false := by
  cases hp : p T[i] with
  | false => exact ⟨fun _ => rfl, fun _ => spn_stop h hp⟩
  | true =>
    refine ⟨fun e => ?_, fun e => by cases e⟩
    have := spn_step h hp
    have := spn_ge (p := p) (T := T) (i := i + 1)
    omega
theorem skp_at (h : skp T i < T.length) : T[skp T i] ≠ 32 := fun e => by
  have := spn_at (p := isBl) h
  exact absurd e (of_decide_eq_false this)
theorem skp_skp (hi : i ≤ T.length) : skp T (skp T i) = skp T i := by
  rcases Nat.lt_or_ge (skp T i) T.length with h | h
  · exact spn_stop h (spn_at (p := isBl) h)
  · exact spn_end h
theorem wrd_end : p = isLe → spn p T i = i + (wrd T i).length := fun e => by rw [e]; rfl
theorem wrd_take : (T.drop i).take (wrd T i).length = wrd T i := by
  have h := List.takeWhile_prefix isLe (l := T.drop i)
  exact (List.prefix_iff_eq_take.mp h).symm
theorem tw_all : ∀ (l : List Nat) (c : Nat), c ∈ l.takeWhile p → p c = true
  | [], c, h => absurd h List.not_mem_nil
  | x :: l, c, h => by
    rw [List.takeWhile_cons] at h
    split at h
    · rcases List.mem_cons.mp h with e | h1
      · rw [e]; assumption
      · exact tw_all l c h1
    · exact absurd h List.not_mem_nil
theorem wrd_le : ∀ c ∈ wrd T i, 97 ≤ c ∧ c ≤ 122 := fun c hc => of_decide_eq_true (tw_all (p := isLe) _ c hc)
theorem nv_s (hi : i + k < T.length) (h3 : k < 3) : nv T i (k + 1) = 10 * nv T i k + (T[i + k] - 48) := by
  unfold nv
  have e1 : min 3 (k + 1) = k + 1 := by omega
  have e2 : min 3 k = k := by omega
  rw [e1, e2, List.take_succ, List.foldl_append, List.getElem?_drop, List.getElem?_eq_getElem hi]
  rfl
theorem nv_3 (h3 : 3 ≤ k) : nv T i (k + 1) = nv T i k := by
  unfold nv
  rw [show min 3 (k + 1) = min 3 k by omega]
theorem nv_0 : nv T i 0 = 0 := by
  unfold nv
  rfl
theorem nv_lt (hT : vT T) : nv T i k < 1000000 := by
  have h : ∀ (l : List Nat) (v c : Nat), (∀ x ∈ l, x < 256) → v ≤ c → l.foldl (fun v c => 10 * v + (c - 48)) v ≤ (c + 300) * 10 ^ l.length := by
    intro l
    induction l with
    | nil => intro v c _ hv; show v ≤ (c + 300) * 1; omega
    | cons x l ih =>
      intro v c hx hv
      have h1 := hx x (List.mem_cons_self ..)
      have h2 := ih (10 * v + (x - 48)) (10 * c + 208) (fun y hy => hx y (List.mem_cons_of_mem _ hy)) (by omega)
      rw [List.foldl_cons, List.length_cons]
      refine Nat.le_trans h2 ?_
      rw [Nat.pow_succ, Nat.mul_comm (10 ^ l.length) 10, ← Nat.mul_assoc]
      exact Nat.mul_le_mul_right _ (by omega)
  have h1 := h ((T.drop i).take (min 3 k)) 0 0 (fun x hx => hT.2 x (List.mem_of_mem_drop (List.mem_of_mem_take hx))) (Nat.le_refl _)
  have h2 : ((T.drop i).take (min 3 k)).length ≤ 3 := by rw [List.length_take]; omega
  have h3 : 10 ^ ((T.drop i).take (min 3 k)).length ≤ 10 ^ 3 := Nat.pow_le_pow_right (by omega) h2
  unfold nv
  have h4 : (0 + 300) * 10 ^ ((T.drop i).take (min 3 k)).length ≤ 300 * 10 ^ 3 := by
    rw [Nat.zero_add]
    exact Nat.mul_le_mul_left _ h3
  have h5 : 300 * 10 ^ 3 = 300000 := by decide
  omega
theorem Pn_r {v : Nat} (h : Pn T lo hi i = .inr (v, j)) : lo ≤ v ∧ v ≤ hi ∧ j = spn isDi T (skp T i) ∧ v = nmb T (skp T i) := by
  unfold Pn at h
  split at h
  · cases h
  · split at h
    · cases h
    · have e := Sum.inr.inj h
      have e1 : nmb T (skp T i) = v := (Prod.mk.inj e).1
      have e2 : spn isDi T (skp T i) = j := (Prod.mk.inj e).2
      omega
theorem Pn_j {v : Nat} (hi2 : i ≤ T.length) (h : Pn T lo hi i = .inr (v, j)) : j ≤ T.length := by
  rw [(Pn_r h).2.2.1]
  exact spn_le (spn_le hi2)
theorem Pe_j (h : Pe T i = .inr j) : j ≤ T.length ∧ j = skp T i + 1 := by
  unfold Pe at h
  split at h
  · have e := Sum.inr.inj h
    have := (List.getElem?_eq_some_iff.mp (by assumption)).1
    omega
  · cases h
theorem Pcost_r {c : Nat} (h : Pcost T i = .inr (c, j)) : 1 ≤ c ∧ c ≤ 99 ∧ j ≤ T.length := by
  unfold Pcost at h
  cases h1 : Pn T 1 99 i with
  | inl f => rw [h1] at h; cases h
  | inr x =>
    rw [h1] at h
    cases h2 : Pe T x.2 with
    | inl f =>
      have h' : (bnd (Pe T x.2) (fun j => .inr (x.1, j)) : Flt ⊕ (Nat × Nat)) = .inr (c, j) := h
      rw [h2] at h'; cases h'
    | inr y =>
      have h' : (bnd (Pe T x.2) (fun j => .inr (x.1, j)) : Flt ⊕ (Nat × Nat)) = .inr (c, j) := h
      rw [h2] at h'
      have e : (x.1, y) = (c, j) := Sum.inr.inj h'
      have e1 : x.1 = c := (Prod.mk.inj e).1
      have e2 : y = j := (Prod.mk.inj e).2
      have := Pn_r (v := x.1) (j := x.2) (by rw [h1])
      have := Pe_j h2
      omega
theorem bnd_r {α β : Type} {x : Flt ⊕ α} {f : α → Flt ⊕ β} {y : β} (h : bnd x f = .inr y) : ∃ a, x = .inr a ∧ f a = .inr y := by
  cases x with
  | inl e => cases h
  | inr a => exact ⟨a, rfl, h⟩
theorem kdW_rng (w : List Nat) : -1 ≤ kdW w ∧ kdW w ≤ 7 := by
  unfold kdW
  repeat' split
  all_goals omega
theorem dkW_rng (w : List Nat) : dkW w = -1 ∨ dkW w = 0 ∨ dkW w = 1 := by
  unfold dkW
  repeat' split
  all_goals omega
theorem Pkr_r {w : List Nat} {k : Ky} (hb : 1 ≤ b) (hm : 1 ≤ m) (h : Pkr T b m w i = .inr (k, j)) (hk : kdW w ≠ -1) : vK b m k ∧ j ≤ T.length := by
  have hr := kdW_rng w
  unfold Pkr at h
  split at h
  · unfold Pnow at h
    split at h
    · obtain ⟨v, v1, v2⟩ := bnd_r h
      obtain ⟨c, c1, c2⟩ := bnd_r v2
      have e := Sum.inr.inj c2
      have e1 := (Prod.mk.inj e).1
      have e2 := (Prod.mk.inj e).2
      have p1 := Pn_r (v := v.1) (j := v.2) v1
      have p2 := Pcost_r (c := c.1) (j := c.2) c1
      rw [← e1, ← e2]
      exact ⟨⟨by show 6 ≤ 7; omega, p2.1, p2.2.1, Or.inr (Or.inr (Or.inl ⟨rfl, by show (0 : Int) ≤ (v.1 : Int); omega, by show (v.1 : Int) < m; omega, by assumption⟩))⟩, p2.2.2⟩
    · cases h
  · split at h
    · obtain ⟨v, v1, v2⟩ := bnd_r h
      obtain ⟨c, c1, c2⟩ := bnd_r v2
      have e := Sum.inr.inj c2
      have e1 := (Prod.mk.inj e).1
      have e2 := (Prod.mk.inj e).2
      have p1 := Pn_r (v := v.1) (j := v.2) v1
      have p2 := Pcost_r (c := c.1) (j := c.2) c1
      rw [← e1, ← e2]
      exact ⟨⟨by show 0 ≤ 7; omega, p2.1, p2.2.1, Or.inl ⟨rfl, by show (0 : Int) ≤ (v.1 : Int); omega, by show (v.1 : Int) < b; omega, rfl⟩⟩, p2.2.2⟩
    · split at h
      · obtain ⟨v, v1, v2⟩ := bnd_r h
        obtain ⟨u, u1, u2⟩ := bnd_r v2
        obtain ⟨c, c1, c2⟩ := bnd_r u2
        have e := Sum.inr.inj c2
        have e1 := (Prod.mk.inj e).1
        have e2 := (Prod.mk.inj e).2
        have p1 := Pn_r (v := v.1) (j := v.2) v1
        have p3 := Pn_r (v := u.1) (j := u.2) u1
        have p2 := Pcost_r (c := c.1) (j := c.2) c1
        rw [← e1, ← e2]
        exact ⟨⟨by show 7 ≤ 7; omega, p2.1, p2.2.1, Or.inr (Or.inr (Or.inr ⟨rfl, by show (0 : Int) ≤ (v.1 : Int); omega, by show (v.1 : Int) < b; omega, by show (0 : Int) ≤ (u.1 : Int); omega, by show (u.1 : Int) < b; omega⟩))⟩, p2.2.2⟩
      · obtain ⟨c, c1, c2⟩ := bnd_r h
        have e := Sum.inr.inj c2
        have e1 := (Prod.mk.inj e).1
        have e2 := (Prod.mk.inj e).2
        have p2 := Pcost_r (c := c.1) (j := c.2) c1
        rw [← e1, ← e2]
        exact ⟨⟨by show (kdW w).toNat ≤ 7; omega, p2.1, p2.2.1, Or.inr (Or.inl ⟨by show 1 ≤ (kdW w).toNat; omega, by show (kdW w).toNat ≤ 5; omega, rfl, rfl⟩)⟩, p2.2.2⟩
theorem Pkey_r {k : Ky} (hb : 1 ≤ b) (hm : 1 ≤ m) (h : Pkey T b m n i = .inr (k, j)) : vK b m k ∧ n < 8 ∧ j ≤ T.length := by
  unfold Pkey at h
  split at h
  · cases h
  · split at h
    · cases h
    · split at h
      · cases h
      · have := Pkr_r hb hm h (by assumption)
        exact ⟨this.1, by omega, this.2⟩
/-- a dial that a text tells, with n keys -/
def vD (n : Nat) (R : Rk) : Prop := (R.1 = 0 ∨ R.1 = 1) ∧ 2 ≤ R.2.1 ∧ R.2.1 ≤ 10 ∧ 1 ≤ R.2.2.1 ∧ R.2.2.1 ≤ 6 ∧ R.2.1 ≤ R.2.2.2.1 ∧ R.2.2.2.1 ≤ 100 ∧ R.2.2.2.2.length ≤ n ∧ ∀ k ∈ R.2.2.2.2, vK R.2.1 R.2.2.2.1 k
theorem vD.add {R : Rk} {k : Ky} (h : vD n R) (hk : vK R.2.1 R.2.2.2.1 k) : vD (n + 1) (addK R k) := by
  obtain ⟨a1, a2, a3, a4, a5, a6, a7, a8, a9⟩ := h
  refine ⟨a1, a2, a3, a4, a5, a6, a7, ?_, fun x hx => ?_⟩
  · show (R.2.2.2.2 ++ [k]).length ≤ n + 1
    rw [List.length_append, List.length_singleton]
    omega
  · have hx' : x ∈ R.2.2.2.2 ++ [k] := hx
    rcases List.mem_append.mp hx' with h1 | h1
    · exact a9 x h1
    · rw [List.mem_singleton.mp h1]; exact hk
theorem Pkeys_v : ∀ (f n : Nat) (R R' : Rk) (i : Nat), f + R.2.2.2.2.length = 9 → vD 8 R → Pkeys T f R i = .inr R' → vD 8 R'
  | 0, n, R, R', i, _, _, h => by cases h
  | f + 1, n, R, R', i, hf, hv, h => by
    unfold Pkeys at h
    split at h
    · rw [← Sum.inr.inj h]; exact hv
    · obtain ⟨x, x1, x2⟩ := bnd_r h
      obtain ⟨p1, p2, p3⟩ := Pkey_r (k := x.1) (j := x.2) (by have := hv.2.1; omega) (by have := hv.2.2.2.2.2.1; have := hv.2.1; omega) x1
      obtain ⟨a1, a2, a3, a4, a5, a6, a7, a8, a9⟩ := hv
      have hv2 : vD (R.2.2.2.2.length + 1) (addK R x.1) := vD.add ⟨a1, a2, a3, a4, a5, a6, a7, Nat.le_refl _, a9⟩ p1
      refine Pkeys_v f n (addK R x.1) R' x.2 ?_ ?_ x2
      · show f + (R.2.2.2.2 ++ [x.1]).length = 9
        rw [List.length_append, List.length_singleton]
        omega
      · obtain ⟨b1, b2, b3, b4, b5, b6, b7, b8, b9⟩ := hv2
        exact ⟨b1, b2, b3, b4, b5, b6, b7, by omega, b9⟩
theorem pow_ge {b f : Nat} (hb : 2 ≤ b) (hf : 1 ≤ f) : b ≤ b ^ f := by
  obtain ⟨g, rfl⟩ : ∃ g, f = g + 1 := ⟨f - 1, by omega⟩
  rw [Nat.pow_succ]
  exact Nat.le_mul_of_pos_left _ (Nat.pow_pos (by omega))
theorem Pdial_v {x : Rk × Nat} (h : Pdial T i = .inr x) : vD 8 x.1 ∧ x.1.2.2.2.2 = [] ∧ x.2 ≤ T.length := by
  unfold Pdial at h
  split at h
  · cases h
  · obtain ⟨b, b1, b2⟩ := bnd_r h
    obtain ⟨f, f1, f2⟩ := bnd_r b2
    split at f2
    · cases f2
    · obtain ⟨j, j1, j2⟩ := bnd_r f2
      have p1 := Pn_r (v := b.1) (j := b.2) b1
      have p2 := Pn_r (v := f.1) (j := f.2) f1
      have p3 := Pe_j j1
      have p4 := pow_ge p1.1 p2.1
      have hd := dkW_rng (wrd T (skp T i))
      rw [← Sum.inr.inj j2]
      exact ⟨⟨by show dkW _ = 0 ∨ dkW _ = 1; omega, p1.1, p1.2.1, p2.1, p2.2.1, p4, by show b.1 ^ f.1 ≤ 100; omega, Nat.zero_le _, fun k hk => absurd hk List.not_mem_nil⟩, rfl, p3.1⟩
theorem Pread_v {R : Rk} (h : Pread T = .inr R) : vR 8 R := by
  unfold Pread at h
  split at h
  · exact Or.inl (Sum.inr.inj h).symm
  · split at h
    · obtain ⟨x, x1, x2⟩ := bnd_r h
      obtain ⟨d1, d2, d3⟩ := Pdial_v x1
      exact Or.inr (Pkeys_v 9 0 x.1 R x.2 (by rw [d2]; rfl) d1 x2)
    · cases h
end TX
