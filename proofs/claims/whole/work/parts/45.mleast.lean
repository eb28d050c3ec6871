/-! ===== the least cost: the reference ===== -/
def lb (S : List Nat) (B : Nat → List Nat) (dd : Nat → Nat) (x : Nat) : Prop := x ∈ S ∨ x ∈ B (dd x % 100)
def upB (B : Nat → List Nat) (r : Nat) (l : List Nat) : Nat → List Nat := fun q => if q = r then l else B q
def upD (dd : Nat → Nat) (x d : Nat) : Nat → Nat := fun y => if y = x then d else dd y
def LsI (τ : Wd) (N : Nat) (S : List Nat) (B : Nat → List Nat) (dd : Nat → Nat) (c h X : Nat) : Prop :=
  (S.Nodup ∧ ∀ x ∈ S, x < N ∧ dd x ≤ c ∧ x ≠ X) ∧
  (∀ r, r < 100 → τ.1 59 r = hdn (-1) (B r) ∧ seg τ (-1) (B r) (-1) ∧ (B r).Nodup ∧ ∀ x ∈ B r, x < N ∧ x ∉ S ∧ x ≠ X ∧ dd x % 100 = r ∧ c ≤ dd x ∧ dd x ≤ h) ∧
  ∀ x, x < N → x ≠ X → (lb S B dd x → τ.1 53 x = nI (dd x)) ∧ (¬ lb S B dd x → τ.1 53 x = -1)
def tO (R : Rk) (y j : Nat) : Nat := mc R.2.2.2.1 (nx R (mdec R.2.2.2.1 y) j)
def LG (R : Rk) (s : St) (S : List Nat) (lp : Nat → Prop) (dd : Nat → Nat) (x k : Nat) : Prop :=
  (∀ y, lp y → ∃ ks, okP R ks ∧ mc R.2.2.2.1 (goP R s ks) = y ∧ cstP R ks = dd y) ∧
  (∀ y ∈ S, ∀ j, j < R.2.2.2.2.length → (y = x → j < k) → lp (tO R y j) ∧ dd (tO R y j) ≤ dd y + kc R j) ∧
  lp (mc R.2.2.2.1 s) ∧ dd (mc R.2.2.2.1 s) = 0
def LeA (R : Rk) (s : St) (x : Int) (w : Int32) : Prop := (¬ (0 ≤ x ∧ x < R.2.2.2.1) ∧ w = OUT) ∨ ((0 ≤ x ∧ x < R.2.2.2.1) ∧ ∃ f, LeastN (leP R s x.toNat) f ∧ w = iz f)
def LzF (σ τ : Wd) : Prop := (∀ a b, ¬ (a = 53 ∨ a = 54 ∨ a = 56 ∨ a = 59 ∨ (a = 44 ∧ 21 ≤ b ∧ b ≤ 24)) → τ.1 a b = σ.1 a b) ∧ τ.2 = σ.2
section ML
variable {D : Nat} {σ τ τ' : Wd} {Q : Option Value → Wd → Prop} {R : Rk} {s : St} {S : List Nat} {B : Nat → List Nat} {dd : Nat → Nat} {c h X x k N n : Nat}
theorem LeA.one {x : Int} {v w : Int32} (h1 : LeA R s x v) (h2 : LeA R s x w) : v = w := by
  rcases h1 with ⟨a, rfl⟩ | ⟨a, f, hf, rfl⟩
  · rcases h2 with ⟨_, rfl⟩ | ⟨b, _⟩
    · rfl
    · exact absurd b a
  · rcases h2 with ⟨b, _⟩ | ⟨_, g, hg, rfl⟩
    · exact absurd a b
    · rw [hf.one hg]
theorem upB_s {r : Nat} {l : List Nat} : upB B r l r = l := if_pos rfl
theorem upB_n {r q : Nat} {l : List Nat} (h : q ≠ r) : upB B r l q = B q := if_neg h
theorem upD_s {d : Nat} : upD dd x d x = d := if_pos rfl
theorem upD_n {d y : Nat} (h : y ≠ x) : upD dd x d y = dd y := if_neg h
theorem LsI.kept (hL : LsI τ N S B dd c h X) (hk : ∀ a b, a = 53 ∨ a = 54 ∨ a = 56 ∨ a = 59 → τ'.1 a b = τ.1 a b) : LsI τ' N S B dd c h X := by
  refine ⟨hL.1, fun r hr => ?_, fun x hx hX => ?_⟩
  · obtain ⟨q1, q2, q3, q4⟩ := hL.2.1 r hr
    exact ⟨by rw [hk _ _ (by omega)]; exact q1, seg_kept _ _ _ (fun y _ => ⟨hk _ _ (by omega), hk _ _ (by omega)⟩) q2, q3, q4⟩
  · rw [hk _ _ (by omega)]
    exact hL.2.2 x hx hX
theorem LsI.up (hL : LsI τ N S B dd c h X) {h' : Nat} (hh : h ≤ h') : LsI τ N S B dd c h' X := by
  refine ⟨hL.1, fun r hr => ?_, hL.2.2⟩
  obtain ⟨q1, q2, q3, q4⟩ := hL.2.1 r hr
  exact ⟨q1, q2, q3, fun y hy => by
    obtain ⟨p1, p2, p3, p4, p5, p6⟩ := q4 y hy
    exact ⟨p1, p2, p3, p4, p5, Nat.le_trans p6 hh⟩⟩
theorem LsI.next (hL : LsI τ N S B dd c h X) (he : B (c % 100) = []) : LsI τ N S B dd (c + 1) h X := by
  refine ⟨⟨hL.1.1, fun y hy => ?_⟩, fun r hr => ?_, hL.2.2⟩
  · obtain ⟨p1, p2, p3⟩ := hL.1.2 y hy
    exact ⟨p1, by omega, p3⟩
  · obtain ⟨q1, q2, q3, q4⟩ := hL.2.1 r hr
    exact ⟨q1, q2, q3, fun y hy => by
      obtain ⟨p1, p2, p3, p4, p5, p6⟩ := q4 y hy
      refine ⟨p1, p2, p3, p4, ?_, p6⟩
      rcases Nat.lt_or_ge c (dd y) with h1 | h1
      · exact h1
      · have e : dd y = c := by omega
        rw [e] at p4
        rw [p4] at he
        rw [he] at hy
        exact absurd hy List.not_mem_nil⟩
/-- taken out -/
theorem LsI.out {a b : List Nat} (hL : LsI τ N S B dd c h N) (hx : B (dd x % 100) = a ++ x :: b) (f1 : ∀ p q, ¬ (p = 59 ∧ q = dd x % 100) → ¬ (p = 54 ∧ q ∈ a) → ¬ (p = 56 ∧ q ∈ b) → τ'.1 p q = τ.1 p q) (f3 : τ'.1 59 (dd x % 100) = hdn (-1) (a ++ b)) (f4 : seg τ' (-1) (a ++ b) (-1)) : LsI τ' N S (upB B (dd x % 100) (a ++ b)) dd c h x := by
  have hr0 : dd x % 100 < 100 := Nat.mod_lt _ (by omega)
  obtain ⟨g1, g2, g3, g4⟩ := hL.2.1 _ hr0
  rw [hx] at g1 g2 g3 g4
  obtain ⟨x1, x2, x3, x4, x5, x6⟩ := g4 x (List.mem_append_right _ (List.mem_cons_self ..))
  have hsub : ∀ y ∈ a ++ b, y ∈ a ++ x :: b := fun y hy => by
    rcases List.mem_append.mp hy with h1 | h1
    · exact List.mem_append_left _ h1
    · exact List.mem_append_right _ (List.mem_cons_of_mem _ h1)
  rw [List.nodup_append] at g3
  have hxa : x ∉ a := fun h1 => g3.2.2 x h1 x (List.mem_cons_self ..) rfl
  have hxb : x ∉ b := (List.nodup_cons.mp g3.2.1).1
  have hnd : (a ++ b).Nodup := by
    rw [List.nodup_append]
    exact ⟨g3.1, (List.nodup_cons.mp g3.2.1).2, fun u hu w hw => g3.2.2 u hu w (List.mem_cons_of_mem _ hw)⟩
  refine ⟨⟨hL.1.1, fun y hy => ?_⟩, fun r hr => ?_, fun y hy hyx => ?_⟩
  · obtain ⟨p1, p2, p3⟩ := hL.1.2 y hy
    exact ⟨p1, p2, fun e => x2 (e ▸ hy)⟩
  · by_cases hrr : r = dd x % 100
    · subst hrr
      rw [upB_s]
      refine ⟨f3, f4, hnd, fun y hy => ?_⟩
      obtain ⟨p1, p2, p3, p4, p5, p6⟩ := g4 y (hsub y hy)
      refine ⟨p1, p2, fun e => ?_, p4, p5, p6⟩
      subst e
      rcases List.mem_append.mp hy with h1 | h1
      · exact hxa h1
      · exact hxb h1
    · rw [upB_n hrr]
      obtain ⟨q1, q2, q3, q4⟩ := hL.2.1 r hr
      have hno : ∀ y ∈ B r, y ∉ a ++ x :: b := fun y hy hh => hrr (by rw [← (q4 y hy).2.2.2.1, (g4 y hh).2.2.2.1])
      refine ⟨by rw [f1 _ _ (fun e => hrr e.2) (by omega) (by omega)]; exact q1, seg_kept _ _ _ (fun y hy => ⟨f1 _ _ (by omega) (by omega) (fun e => hno y hy (hsub y (List.mem_append_right _ e.2))), f1 _ _ (by omega) (fun e => hno y hy (hsub y (List.mem_append_left _ e.2))) (by omega)⟩) q2, q3, fun y hy => ?_⟩
      obtain ⟨p1, p2, p3, p4, p5, p6⟩ := q4 y hy
      exact ⟨p1, p2, fun e => hno y hy (by rw [e]; exact List.mem_append_right _ (List.mem_cons_self ..)), p4, p5, p6⟩
  · rw [f1 _ _ (by omega) (by omega) (by omega)]
    have hiff : lb S (upB B (dd x % 100) (a ++ b)) dd y ↔ lb S B dd y := by
      unfold lb
      by_cases hrr : dd y % 100 = dd x % 100
      · rw [hrr, upB_s, hx]
        constructor
        · rintro (h1 | h1)
          · exact Or.inl h1
          · exact Or.inr (hsub y h1)
        · rintro (h1 | h1)
          · exact Or.inl h1
          · rcases List.mem_append.mp h1 with h2 | h2
            · exact Or.inr (List.mem_append_left _ h2)
            · rcases List.mem_cons.mp h2 with h3 | h3
              · exact absurd h3 hyx
              · exact Or.inr (List.mem_append_right _ h3)
      · rw [upB_n hrr]
    rw [hiff]
    exact hL.2.2 y hy (by omega)
/-- settled -/
theorem LsI.settle (hL : LsI τ N S B dd c h x) (hx : x < N) (hd : dd x = c) (h53 : τ.1 53 x = nI (dd x)) : LsI τ N (x :: S) B dd c h N := by
  have hxS : x ∉ S := fun h1 => (hL.1.2 x h1).2.2 rfl
  refine ⟨⟨List.nodup_cons.mpr ⟨hxS, hL.1.1⟩, fun y hy => ?_⟩, fun r hr => ?_, fun y hy _ => ?_⟩
  · rcases List.mem_cons.mp hy with e | h1
    · rw [e]; exact ⟨hx, by omega, by omega⟩
    · obtain ⟨p1, p2, p3⟩ := hL.1.2 y h1
      exact ⟨p1, p2, by omega⟩
  · obtain ⟨q1, q2, q3, q4⟩ := hL.2.1 r hr
    refine ⟨q1, q2, q3, fun y hy => ?_⟩
    obtain ⟨p1, p2, p3, p4, p5, p6⟩ := q4 y hy
    refine ⟨p1, fun hh => ?_, by omega, p4, p5, p6⟩
    rcases List.mem_cons.mp hh with e | h1
    · exact p3 e
    · exact p2 h1
  · by_cases e : y = x
    · subst e
      exact ⟨fun _ => h53, fun h1 => absurd (Or.inl (List.mem_cons_self ..)) h1⟩
    · have h1 := hL.2.2 y hy e
      refine ⟨fun hh => h1.1 ?_, fun hh => h1.2 (fun h2 => hh ?_)⟩
      · rcases hh with hh | hh
        · exact Or.inl ((List.mem_cons.mp hh).resolve_left e)
        · exact Or.inr hh
      · rcases h2 with h2 | h2
        · exact Or.inl (List.mem_cons_of_mem _ h2)
        · exact Or.inr h2
/-- put in -/
theorem LsI.put {d : Nat} (hL : LsI τ N S B dd c h X) (hX : X < N) (hd1 : c ≤ d) (hd2 : d ≤ h) (f1 : ∀ p q, ¬ (p = 59 ∧ q = d % 100) → ¬ (p = 54 ∧ q = X) → ¬ (p = 56 ∧ (q = X ∨ q ∈ B (d % 100))) → ¬ (p = 53 ∧ q = X) → τ'.1 p q = τ.1 p q) (f2 : τ'.1 53 X = nI d) (f3 : τ'.1 59 (d % 100) = nI X) (f4 : seg τ' (-1) (X :: B (d % 100)) (-1)) : LsI τ' N S (upB B (d % 100) (X :: B (d % 100))) (upD dd X d) c h N := by
  have hr0 : d % 100 < 100 := Nat.mod_lt _ (by omega)
  obtain ⟨g1, g2, g3, g4⟩ := hL.2.1 _ hr0
  have hXB : X ∉ B (d % 100) := fun h1 => (g4 X h1).2.2.1 rfl
  have hXS : X ∉ S := fun h1 => (hL.1.2 X h1).2.2 rfl
  refine ⟨⟨hL.1.1, fun y hy => ?_⟩, fun r hr => ?_, fun y hy _ => ?_⟩
  · obtain ⟨p1, p2, p3⟩ := hL.1.2 y hy
    exact ⟨p1, by rw [upD_n p3]; exact p2, by omega⟩
  · by_cases hrr : r = d % 100
    · subst hrr
      rw [upB_s]
      refine ⟨f3, f4, List.nodup_cons.mpr ⟨hXB, g3⟩, fun y hy => ?_⟩
      rcases List.mem_cons.mp hy with e | h1
      · rw [e, upD_s]
        exact ⟨hX, hXS, by omega, rfl, hd1, hd2⟩
      · obtain ⟨p1, p2, p3, p4, p5, p6⟩ := g4 y h1
        rw [upD_n p3]
        exact ⟨p1, p2, by omega, p4, p5, p6⟩
    · rw [upB_n hrr]
      obtain ⟨q1, q2, q3, q4⟩ := hL.2.1 r hr
      refine ⟨by rw [f1 _ _ (fun e => hrr e.2) (by omega) (by omega) (by omega)]; exact q1, seg_kept _ _ _ (fun y hy => ?_) q2, q3, fun y hy => ?_⟩
      · obtain ⟨p1, p2, p3, p4, p5, p6⟩ := q4 y hy
        refine ⟨f1 _ _ (by omega) (by omega) (fun e => ?_) (by omega), f1 _ _ (by omega) (fun e => p3 e.2) (by omega) (by omega)⟩
        rcases e.2 with e2 | e2
        · exact p3 e2
        · exact hrr (by rw [← p4, (g4 y e2).2.2.2.1])
      · obtain ⟨p1, p2, p3, p4, p5, p6⟩ := q4 y hy
        rw [upD_n p3]
        exact ⟨p1, p2, by omega, p4, p5, p6⟩
  · by_cases e : y = X
    · subst e
      refine ⟨fun _ => by rw [upD_s]; exact f2, fun hh => absurd (Or.inr ?_) hh⟩
      rw [upD_s, upB_s]
      exact List.mem_cons_self ..
    · rw [f1 _ _ (by omega) (by omega) (by omega) (fun h1 => e h1.2), upD_n e]
      have hiff : lb S (upB B (d % 100) (X :: B (d % 100))) (upD dd X d) y ↔ lb S B dd y := by
        unfold lb
        rw [upD_n e]
        by_cases hrr : dd y % 100 = d % 100
        · rw [hrr, upB_s]
          constructor
          · rintro (h1 | h1)
            · exact Or.inl h1
            · exact Or.inr ((List.mem_cons.mp h1).resolve_left e)
          · rintro (h1 | h1)
            · exact Or.inl h1
            · exact Or.inr (List.mem_cons_of_mem _ h1)
        · rw [upB_n hrr]
      rw [hiff]
      exact hL.2.2 y hy e
theorem lb_put {d y : Nat} : lb S (upB B (d % 100) (X :: B (d % 100))) (upD dd X d) y ↔ lb S B dd y ∨ y = X := by
  unfold lb
  by_cases e : y = X
  · subst e
    rw [upD_s, upB_s]
    exact ⟨fun _ => Or.inr rfl, fun _ => Or.inr (List.mem_cons_self ..)⟩
  · rw [upD_n e]
    by_cases hrr : dd y % 100 = d % 100
    · rw [hrr, upB_s, List.mem_cons]
      constructor
      · rintro (h1 | h1 | h1)
        · exact Or.inl (Or.inl h1)
        · exact absurd h1 e
        · exact Or.inl (Or.inr h1)
      · rintro ((h1 | h1) | h1)
        · exact Or.inl h1
        · exact Or.inr (Or.inr h1)
        · exact absurd h1 e
    · rw [upB_n hrr]
      exact ⟨fun h1 => Or.inl h1, fun h1 => h1.resolve_right e⟩
theorem lb_out {a b : List Nat} {y : Nat} (hx : B (dd x % 100) = a ++ x :: b) (hy : y ≠ x) : lb S (upB B (dd x % 100) (a ++ b)) dd y ↔ lb S B dd y := by
  unfold lb
  by_cases hrr : dd y % 100 = dd x % 100
  · rw [hrr, upB_s, hx, List.mem_append, List.mem_append, List.mem_cons]
    constructor
    · rintro (h1 | h1 | h1)
      · exact Or.inl h1
      · exact Or.inr (Or.inl h1)
      · exact Or.inr (Or.inr (Or.inr h1))
    · rintro (h1 | h1 | h1 | h1)
      · exact Or.inl h1
      · exact Or.inr (Or.inl h1)
      · exact absurd h1 hy
      · exact Or.inr (Or.inr h1)
  · rw [upB_n hrr]
theorem tO_lt (hv : vR n R) (hm : 0 < R.2.2.2.1) (hx : x < 8 * R.2.2.2.1 * R.2.2.2.1) (hk : k < R.2.2.2.2.length) : tO R x k < 8 * R.2.2.2.1 * R.2.2.2.1 := mc_lt hm (nx_w hv hk (mdec_w hm hx))
theorem LG.skip {lp : Nat → Prop} (hG : LG R s S lp dd x k) (h1 : lp (tO R x k)) (h2 : dd (tO R x k) ≤ dd x + kc R k) : LG R s S lp dd x (k + 1) := by
  refine ⟨hG.1, fun y hy j hj hjk => ?_, hG.2.2⟩
  by_cases e : y = x ∧ j = k
  · obtain ⟨rfl, rfl⟩ := e
    exact ⟨h1, h2⟩
  · exact hG.2.1 y hy j hj (fun e2 => by have := hjk e2; omega)
theorem LG.relax {lp lp2 : Nat → Prop} {d : Nat} (hv : vR n R) (hm : 0 < R.2.2.2.1) (hs : wS R.2.2.2.1 s) (hG : LG R s S lp dd x k) (hk : k < R.2.2.2.2.length) (hx : x ∈ S) (hlx : lp x) (hd : d = dd x + kc R k) (hXS : tO R x k ∉ S) (hle : lp (tO R x k) → d ≤ dd (tO R x k)) (h2 : ∀ y, lp2 y ↔ lp y ∨ y = tO R x k) : LG R s S lp2 (upD dd (tO R x k) d) x (k + 1) := by
  have hkc := (kc_b hv hk).1
  refine ⟨fun y hy => ?_, fun y hy j hj hjk => ?_, (h2 _).mpr (Or.inl hG.2.2.1), ?_⟩
  · by_cases e : y = tO R x k
    · rw [e, upD_s]
      obtain ⟨ks, k1, k2, k3⟩ := hG.1 x hlx
      refine ⟨ks ++ [k], okP_app k1 hk, ?_, by rw [cstP_app, k3, hd]⟩
      rw [goP_app]
      unfold tO
      rw [← k2, mdec_mc hm (goP_w hv ks s k1 hs)]
    · rw [upD_n e]
      exact hG.1 y (((h2 y).mp hy).resolve_right e)
  · have hyX : y ≠ tO R x k := fun e => hXS (e ▸ hy)
    rw [upD_n hyX]
    by_cases e : tO R y j = tO R x k
    · rw [e, upD_s]
      refine ⟨(h2 _).mpr (Or.inr rfl), ?_⟩
      by_cases e2 : y = x ∧ j = k
      · obtain ⟨rfl, rfl⟩ := e2
        omega
      · obtain ⟨q1, q2⟩ := hG.2.1 y hy j hj (fun e3 => by have := hjk e3; omega)
        rw [e] at q1 q2
        have := hle q1
        omega
    · rw [upD_n e]
      obtain ⟨q1, q2⟩ := hG.2.1 y hy j hj (fun e3 => by
        have h5 := hjk e3
        rcases Nat.lt_or_ge j k with h6 | h6
        · exact h6
        · have e4 : j = k := by omega
          rw [e3, e4] at e
          exact absurd rfl e)
      exact ⟨(h2 _).mpr (Or.inl q1), q2⟩
  · by_cases e : mc R.2.2.2.1 s = tO R x k
    · have h5 := hG.2.2.1
      have h6 := hG.2.2.2
      rw [e] at h5 h6
      have := hle h5
      omega
    · rw [upD_n e]
      exact hG.2.2.2
theorem lg_min {lp : Nat → Prop} {C v : Nat} (hv : vR n R) (hm : 0 < R.2.2.2.1) (hs : wS R.2.2.2.1 s) (hG : LG R s S lp dd x R.2.2.2.2.length) (hq : ∀ y, lp y → y ∈ S ∨ C ≤ dd y) (h8 : ∀ y ∈ S, (mdec R.2.2.2.1 y).1 = v → C ≤ dd y) (ks : List Nat) (hk : okP R ks) (hg : (goP R s ks).1 = v) : C ≤ cstP R ks := by
  have hd := dij (R := R) (Sd := fun t d => wS R.2.2.2.1 t ∧ mc R.2.2.2.1 t ∈ S ∧ dd (mc R.2.2.2.1 t) = d) (C := C) (v := v) (fun t d k ⟨a1, a2, a3⟩ hk => by
    obtain ⟨q1, q2⟩ := hG.2.1 _ a2 k hk (fun _ => hk)
    unfold tO at q1 q2
    rw [mdec_mc hm a1] at q1 q2
    rcases hq _ q1 with h1 | h1
    · exact Or.inl ⟨_, ⟨nx_w hv hk a1, h1, rfl⟩, by omega⟩
    · exact Or.inr (by omega)) (fun t d ⟨a1, a2, a3⟩ ht => by
    have := h8 _ a2 (by rw [mdec_mc hm a1]; exact ht)
    omega) ks s
  rcases hq _ hG.2.2.1 with h1 | h1
  · have := hd 0 ⟨hs, h1, hG.2.2.2⟩ hk hg
    omega
  · rw [hG.2.2.2] at h1
    omega
theorem LzF.set {a b : Nat} {x : Int32} (h : LzF σ τ) (ha : a = 53 ∨ a = 54 ∨ a = 56 ∨ a = 59) : LzF σ (setI τ a b x) := ⟨fun u v hh => by rw [setI_ne (by omega)]; exact h.1 u v hh, h.2⟩
theorem LzF.putS {t : St} (h : LzF σ τ) : LzF σ (putS τ t) := ⟨fun u v hh => by rw [putS_o (by omega)]; exact h.1 u v hh, h.2⟩
theorem lzf_sc (h : LzF σ τ) (hS : RepS σ s) : ScFr σ (putS τ s) := by
  refine ⟨fun a b hab => ?_, h.2⟩
  by_cases h44 : a = 44 ∧ 21 ≤ b ∧ b ≤ 24
  · obtain ⟨rfl, q1, q2⟩ := h44
    obtain ⟨p1, p2, p3, p4⟩ := putS_rep (σ := τ) (s := s)
    obtain ⟨r1, r2, r3, r4⟩ := hS
    rcases (show b = 21 ∨ b = 22 ∨ b = 23 ∨ b = 24 by omega) with rfl | rfl | rfl | rfl
    · rw [p1, r1]
    · rw [p2, r2]
    · rw [p3, r3]
    · rw [p4, r4]
  · rw [putS_o h44]
    exact h.1 a b (by omega)
end ML
