/-! ===== a key that has lost its letter: rows of strokes ===== -/
def bl (u : Nat) : List Nat := (List.range 8).filter (fun k => u.testBit k)
def kk (R : Rk) (a k : Nat) : Nat := if k = R.2.2.2.2.length then a else k
def rdT (R : Rk) (a : Nat) : St → List Nat → St
  | s, [] => s
  | s, k :: ks => rdT R a (nx R s (kk R a k)) ks
def rdS (R : Rk) (a : Nat) : St → List Nat → List Nat
  | _, [] => []
  | s, k :: ks => (nx R s (kk R a k)).1 :: rdS R a (nx R s (kk R a k)) ks
def bas (B : Nat) (l : List Nat) : Nat := l.foldl (fun v x => B * v + x) 0
def tel (R : Rk) (s : St) (u : Nat) (ks : List Nat) : Prop := ∀ a ∈ bl u, ∀ b ∈ bl u, a ≠ b → rdS R a s ks ≠ rdS R b s ks
def okK (R : Rk) (ks : List Nat) : Prop := ∀ k ∈ ks, k ≤ R.2.2.2.2.length
def lsT (R : Rk) (s : St) (u n : Nat) : Prop := ∃ ks : List Nat, ks.length = n ∧ okK R ks ∧ tel R s u ks
def LostIs (R : Rk) (s : St) (u : Nat) (f : Int) : Prop := (f = -1 ∧ ∀ n, 1 ≤ n → n ≤ 4 → ¬ lsT R s u n) ∨ (∃ n : Nat, f = n ∧ 1 ≤ n ∧ n ≤ 4 ∧ lsT R s u n ∧ ∀ m, 1 ≤ m → m < n → ¬ lsT R s u m)
def LoA (R : Rk) (s : St) (x : Int) (w : Int32) : Prop := (¬ (0 ≤ x ∧ x.toNat < 2 ^ R.2.2.2.2.length) ∧ w = UNK) ∨ ((0 ≤ x ∧ x.toNat < 2 ^ R.2.2.2.2.length) ∧ (bl x.toNat).length < 2 ∧ w = OUT) ∨ ((0 ≤ x ∧ x.toNat < 2 ^ R.2.2.2.2.length) ∧ ¬ (bl x.toNat).length < 2 ∧ ∃ f, LostIs R s x.toNat f ∧ w = iz f)
section LO
variable {R : Rk} {s : St} {u a : Nat}
theorem LostIs.one {f g : Int} (h1 : LostIs R s u f) (h2 : LostIs R s u g) : f = g := by
  rcases h1 with ⟨h1, h3⟩ | ⟨n, h1, h3, h4, h5, h6⟩ <;> rcases h2 with ⟨h2, h7⟩ | ⟨m, h2, h7, h8, h9, h10⟩
  · omega
  · exact absurd h9 (h3 m h7 h8)
  · exact absurd h5 (h7 n h3 h4)
  · rcases Nat.lt_trichotomy n m with h | h | h
    · exact absurd h5 (h10 n h3 h)
    · omega
    · exact absurd h9 (h6 m h7 h)
theorem LoA.one {x : Int} {v w : Int32} (h1 : LoA R s x v) (h2 : LoA R s x w) : v = w := by
  rcases h1 with ⟨h1, h3⟩ | ⟨h1, h3, h4⟩ | ⟨h1, h3, f, h4, h5⟩ <;> rcases h2 with ⟨h2, h7⟩ | ⟨h2, h7, h8⟩ | ⟨h2, h7, g, h8, h9⟩
  · rw [h3, h7]
  · exact absurd h2 h1
  · exact absurd h2 h1
  · exact absurd h1 h2
  · rw [h4, h8]
  · exact absurd h3 h7
  · exact absurd h1 h2
  · exact absurd h7 h3
  · rw [h5, h9, h4.one h8]
theorem rdT_app {k : Nat} : ∀ (ks : List Nat) (s : St), rdT R a s (ks ++ [k]) = nx R (rdT R a s ks) (kk R a k)
  | [], _ => rfl
  | _ :: ks, _ => rdT_app ks _
theorem rdS_app {k : Nat} : ∀ (ks : List Nat) (s : St), rdS R a s (ks ++ [k]) = rdS R a s ks ++ [(nx R (rdT R a s ks) (kk R a k)).1]
  | [], _ => rfl
  | j :: ks, s => by
    show (nx R s (kk R a j)).1 :: rdS R a _ (ks ++ [k]) = (nx R s (kk R a j)).1 :: (rdS R a _ ks ++ _)
    rw [rdS_app ks]
    rfl
theorem rdS_len : ∀ (ks : List Nat) (s : St), (rdS R a s ks).length = ks.length
  | [], _ => rfl
  | _ :: ks, _ => by show (rdS R a _ ks).length + 1 = _; rw [rdS_len ks]; rfl
theorem kk_lt {k : Nat} (ha : a < R.2.2.2.2.length) (hk : k ≤ R.2.2.2.2.length) : kk R a k < R.2.2.2.2.length := by
  unfold kk
  split <;> omega
theorem rdT_v (hv : vR 8 R) (ha : a < R.2.2.2.2.length) : ∀ (ks : List Nat) (s : St), okK R ks → vS R.2.2.2.1 s → vS R.2.2.2.1 (rdT R a s ks)
  | [], _, _, h => h
  | k :: ks, s, h1, h => rdT_v hv ha ks _ (fun j hj => h1 j (List.mem_cons_of_mem _ hj)) (nx_v hv (kk_lt ha (h1 k (List.mem_cons_self ..))) h)
theorem rdS_lt (hv : vR 8 R) (ha : a < R.2.2.2.2.length) : ∀ (ks : List Nat) (s : St), okK R ks → vS R.2.2.2.1 s → ∀ x ∈ rdS R a s ks, x < 100
  | [], _, _, _, x, hx => absurd hx List.not_mem_nil
  | k :: ks, s, h1, h, x, hx => by
    have hn := nx_v hv (kk_lt ha (h1 k (List.mem_cons_self ..))) h
    have hm := hv.m100
    have := hn.1
    rcases List.mem_cons.mp hx with e | e
    · subst e
      omega
    · exact rdS_lt hv ha ks _ (fun j hj => h1 j (List.mem_cons_of_mem _ hj)) hn x e
theorem bas_app {B x : Nat} (l : List Nat) : bas B (l ++ [x]) = B * bas B l + x := by
  unfold bas
  rw [List.foldl_append]
  rfl
theorem fold_inj {B : Nat} : ∀ (l1 l2 : List Nat) (v w : Nat), l1.length = l2.length → (∀ x ∈ l1, x < B) → (∀ x ∈ l2, x < B) → l1.foldl (fun v x => B * v + x) v = l2.foldl (fun v x => B * v + x) w → v = w ∧ l1 = l2
  | [], [], v, w, _, _, _, h => ⟨h, rfl⟩
  | x :: l1, [], v, w, h, _, _, _ => by simp at h
  | [], y :: l2, v, w, h, _, _, _ => by simp at h
  | x :: l1, y :: l2, v, w, hl, h1, h2, h => by
    obtain ⟨e1, e2⟩ := fold_inj l1 l2 _ _ (by simpa using hl) (fun z hz => h1 z (List.mem_cons_of_mem _ hz)) (fun z hz => h2 z (List.mem_cons_of_mem _ hz)) h
    have hx := h1 x (List.mem_cons_self ..)
    have hy := h2 y (List.mem_cons_self ..)
    have e1' : B * v + x = B * w + y := e1
    have e3 : (B * v + x) / B = (B * w + y) / B := by rw [e1']
    rw [Nat.mul_add_div (by omega), Nat.mul_add_div (by omega), Nat.div_eq_of_lt hx, Nat.div_eq_of_lt hy] at e3
    have e5 : v = w := by omega
    subst e5
    exact ⟨rfl, by rw [e2, show x = y by omega]⟩
theorem bas_inj {B : Nat} {l1 l2 : List Nat} (hl : l1.length = l2.length) (h1 : ∀ x ∈ l1, x < B) (h2 : ∀ x ∈ l2, x < B) : bas B l1 = bas B l2 ↔ l1 = l2 := ⟨fun h => (fold_inj l1 l2 0 0 hl h1 h2 h).2, fun h => by rw [h]⟩
theorem fold_lt {B : Nat} : ∀ (l : List Nat) (v c : Nat), (∀ x ∈ l, x < B) → v < c → l.foldl (fun v x => B * v + x) v < c * B ^ l.length
  | [], v, c, _, h => by simpa using h
  | x :: l, v, c, h1, h => by
    have hx := h1 x (List.mem_cons_self ..)
    have h2 : B * v + x < c * B := by
      have h3 : (v + 1) * B ≤ c * B := Nat.mul_le_mul_right B h
      rw [Nat.succ_mul, Nat.mul_comm v B] at h3
      omega
    have := fold_lt l (B * v + x) (c * B) (fun z hz => h1 z (List.mem_cons_of_mem _ hz)) h2
    show l.foldl _ (B * v + x) < _
    rw [List.length_cons, Nat.pow_succ, Nat.mul_comm (B ^ l.length) B, ← Nat.mul_assoc]
    exact this
theorem bas_lt {B : Nat} {l : List Nat} (h : ∀ x ∈ l, x < B) : bas B l < B ^ l.length := by
  have := fold_lt l 0 1 h (by decide)
  rwa [Nat.one_mul] at this
theorem bl_len : (bl u).length ≤ 8 := List.length_filter_le _ _
theorem bl_mem : a ∈ bl u ↔ a < 8 ∧ u.testBit a = true := by
  unfold bl
  rw [List.mem_filter, List.mem_range]
theorem bl_nd : (bl u).Nodup := List.Nodup.sublist List.filter_sublist List.nodup_range
theorem bl_K (hu : u < 2 ^ R.2.2.2.2.length) (h : a ∈ bl u) : a < R.2.2.2.2.length := by
  rcases Nat.lt_or_ge a R.2.2.2.2.length with h1 | h1
  · exact h1
  · have := (bl_mem.mp h).2
    rw [Nat.testBit_lt_two_pow (Nat.lt_of_lt_of_le hu (Nat.pow_le_pow_right (by decide) h1))] at this
    exact absurd this (by decide)
theorem tel_ix {ks : List Nat} : tel R s u ks ↔ ∀ (i j : Nat) (x y : Nat), j < i → (bl u)[i]? = some x → (bl u)[j]? = some y → rdS R x s ks ≠ rdS R y s ks := by
  constructor
  · intro h i j x y hij hx hy
    obtain ⟨h1, e1⟩ := List.getElem?_eq_some_iff.mp hx
    obtain ⟨h2, e2⟩ := List.getElem?_eq_some_iff.mp hy
    refine h x (List.mem_of_getElem? hx) y (List.mem_of_getElem? hy) (fun e => ?_)
    rw [← e1, ← e2] at e
    exact (List.pairwise_iff_getElem.mp (bl_nd (u := u)) j i h2 h1 hij) e.symm
  · intro h x hx y hy hne
    obtain ⟨i, hi⟩ := List.mem_iff_getElem?.mp hx
    obtain ⟨j, hj⟩ := List.mem_iff_getElem?.mp hy
    rcases Nat.lt_trichotomy i j with e | e | e
    · exact (h j i y x e hj hi).symm
    · subst e
      rw [hi] at hj
      exact absurd (Option.some.inj hj) hne
    · exact h i j x y e hi hj
theorem bitT {u k : Nat} (hu : u < 256) (hk : k < 8) : (nI u >>> (nI k &&& 31)) &&& 1 = if u.testBit k then 1 else 0 := by
  have h : ∀ u, u < 256 → ∀ k, k < 8 → (nI u >>> (nI k &&& 31)) &&& 1 = if u.testBit k then 1 else 0 := by decide +kernel
  exact h u hu k hk
end LO
