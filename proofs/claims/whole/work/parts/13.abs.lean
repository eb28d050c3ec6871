/-! ===== the reckoner as numbers: keys, states, strokes ===== -/
/-- kind, cost, D or N, E or sign -/
abbrev Ky : Type := Nat × Nat × Int × Int
/-- kind of the dial, base, figures, numbers, keys -/
abbrev Rk : Type := Int × Nat × Nat × Nat × List Ky
/-- shown, what waits, held, typed -/
abbrev St : Type := Nat × Nat × Nat × Nat
abbrev Rk.kd (R : Rk) : Int := R.1
abbrev Rk.bs (R : Rk) : Nat := R.2.1
abbrev Rk.fg (R : Rk) : Nat := R.2.2.1
abbrev Rk.nm (R : Rk) : Nat := R.2.2.2.1
abbrev Rk.ks (R : Rk) : List Ky := R.2.2.2.2
def rk_z (sign : Nat) (x y : Nat) : Int := if sign = 1 then (x : Int) + y else if sign = 2 then (x : Int) - y else (x : Int) * y
def rk_rec (R : Rk) (sign x y : Nat) : Nat := if R.1 = 1 then (if rk_z sign x y < 0 then 0 else if (R.2.2.2.1 : Int) ≤ rk_z sign x y then R.2.2.2.1 - 1 else (rk_z sign x y).toNat) else (rk_z sign x y % (R.2.2.2.1 : Int)).toNat
def rk_fig (R : Rk) (s : St) (d : Nat) : St := (if s.2.2.2 = 0 then d else if R.1 = 1 then (if R.2.2.2.1 ≤ s.1 * R.2.1 + d then s.1 else s.1 * R.2.1 + d) else (s.1 * R.2.1 + d) % R.2.2.2.1, s.2.1, s.2.2.1, 1)
def rk_str (R : Rk) (s : St) (k : Ky) : St :=
  if k.1 = 0 then rk_fig R s k.2.2.1.toNat
  else if k.1 ≤ 3 then
    ((if s.2.1 ≠ 0 ∧ s.2.2.2 ≠ 0 then rk_rec R s.2.1 s.2.2.1 s.1 else s.1), k.1, (if s.2.1 ≠ 0 ∧ s.2.2.2 ≠ 0 then rk_rec R s.2.1 s.2.2.1 s.1 else s.1), 0)
  else if k.1 = 4 then ((if s.2.1 ≠ 0 then rk_rec R s.2.1 s.2.2.1 s.1 else s.1), 0, 0, 0)
  else if k.1 = 5 then (0, 0, 0, 0)
  else if k.1 = 6 then (rk_rec R k.2.2.2.toNat s.1 k.2.2.1.toNat, s.2.1, s.2.2.1, 0)
  else rk_fig R (rk_fig R s k.2.2.1.toNat) k.2.2.2.toNat
/-- a key that a text can tell, for a dial of base b and m numbers -/
def vK (b m : Nat) (k : Ky) : Prop := k.1 ≤ 7 ∧ 1 ≤ k.2.1 ∧ k.2.1 ≤ 99 ∧
  ((k.1 = 0 ∧ 0 ≤ k.2.2.1 ∧ k.2.2.1 < b ∧ k.2.2.2 = -1) ∨ (1 ≤ k.1 ∧ k.1 ≤ 5 ∧ k.2.2.1 = -1 ∧ k.2.2.2 = -1) ∨ (k.1 = 6 ∧ 0 ≤ k.2.2.1 ∧ k.2.2.1 < m ∧ 1 ≤ k.2.2.2 ∧ k.2.2.2 ≤ 3) ∨ (k.1 = 7 ∧ 0 ≤ k.2.2.1 ∧ k.2.2.1 < b ∧ 0 ≤ k.2.2.2 ∧ k.2.2.2 < b))
/-- a dial with n keys at most -/
def vR (n : Nat) (R : Rk) : Prop := (R = (-1, 0, 0, 0, [])) ∨ ((R.1 = 0 ∨ R.1 = 1) ∧ 2 ≤ R.2.1 ∧ R.2.1 ≤ 10 ∧ 1 ≤ R.2.2.1 ∧ R.2.2.1 ≤ 6 ∧ R.2.1 ≤ R.2.2.2.1 ∧ R.2.2.2.1 ≤ 100 ∧ R.2.2.2.2.length ≤ n ∧ ∀ k ∈ R.2.2.2.2, vK R.2.1 R.2.2.2.1 k)
/-- a state that a dial of m numbers can have -/
def vS (m : Nat) (s : St) : Prop := s.1 < max m 1 ∧ s.2.1 ≤ 3 ∧ s.2.2.1 < max m 1 ∧ (s.2.1 = 0 → s.2.2.1 = 0) ∧ s.2.2.2 ≤ 1
def ps (s : St) : Nat := 65536 * s.2.2.2 + 16384 * s.2.1 + 128 * s.2.2.1 + s.1
theorem rk_rec_lt {R : Rk} {sign x y : Nat} (hm : 0 < R.2.2.2.1) : rk_rec R sign x y < R.2.2.2.1 := by
  unfold rk_rec
  have h2 := Int.emod_nonneg (rk_z sign x y) (show (R.2.2.2.1 : Int) ≠ 0 by omega)
  have h3 := Int.emod_lt_of_pos (rk_z sign x y) (show 0 < (R.2.2.2.1 : Int) by omega)
  split
  · split
    · exact hm
    · split <;> omega
  · omega
theorem rk_fig_v {R : Rk} {s : St} {d : Nat} (hm : 0 < R.2.2.2.1) (hd : d < R.2.2.2.1) (hs : vS R.2.2.2.1 s) : vS R.2.2.2.1 (rk_fig R s d) := by
  obtain ⟨h1, h2, h3, h4, h5⟩ := hs
  have h6 := Nat.mod_lt (s.1 * R.2.1 + d) hm
  refine ⟨?_, h2, h3, h4, Nat.le_refl 1⟩
  show (if s.2.2.2 = 0 then d else if R.1 = 1 then (if R.2.2.2.1 ≤ s.1 * R.2.1 + d then s.1 else s.1 * R.2.1 + d) else (s.1 * R.2.1 + d) % R.2.2.2.1) < _
  split
  · omega
  · split
    · split <;> omega
    · omega
theorem rk_str_v {R : Rk} {s : St} {k : Ky} {n : Nat} (hR : vR n R) (hk : k ∈ R.2.2.2.2) (hs : vS R.2.2.2.1 s) : vS R.2.2.2.1 (rk_str R s k) := by
  rcases hR with rfl | ⟨h1, h2, h3, h4, h5, h6, h7, h8, h9⟩
  · exact absurd hk List.not_mem_nil
  have hm : 0 < R.2.2.2.1 := by omega
  have hK := h9 k hk
  obtain ⟨q1, q2, q3, q4⟩ := hK
  obtain ⟨s1, s2, s3, s4, s5⟩ := id hs
  have hr := rk_rec_lt (R := R) (sign := s.2.1) (x := s.2.2.1) (y := s.1) hm
  have hr6 := rk_rec_lt (R := R) (sign := k.2.2.2.toNat) (x := s.1) (y := k.2.2.1.toNat) hm
  unfold rk_str
  split
  · exact rk_fig_v hm (by omega) hs
  · split
    · refine ⟨?_, by show k.1 ≤ 3; assumption, ?_, fun e => absurd (show k.1 = 0 from e) (by assumption), Nat.zero_le 1⟩
      · show (if _ then _ else _) < _
        split <;> omega
      · show (if _ then _ else _) < _
        split <;> omega
    · split
      · refine ⟨?_, Nat.zero_le _, by show 0 < _; omega, fun _ => rfl, Nat.zero_le 1⟩
        show (if _ then _ else _) < _
        split <;> omega
      · split
        · exact ⟨by show 0 < _; omega, Nat.zero_le _, by show 0 < _; omega, fun _ => rfl, Nat.zero_le 1⟩
        · split
          · exact ⟨by show rk_rec _ _ _ _ < _; omega, s2, s3, s4, Nat.zero_le 1⟩
          · exact rk_fig_v hm (by omega) (rk_fig_v hm (by omega) hs)
/-! bits of a state -/
theorem nb_or (a b : Nat) : nI a ||| nI b = nI (a ||| b) := by
  apply Int32.toBitVec_inj.1
  show BitVec.ofNat 32 a ||| BitVec.ofNat 32 b = BitVec.ofNat 32 (a ||| b)
  apply BitVec.eq_of_getLsbD_eq
  intro i hi
  simp [hi]
theorem nb_and (a b : Nat) : nI a &&& nI b = nI (a &&& b) := by
  apply Int32.toBitVec_inj.1
  show BitVec.ofNat 32 a &&& BitVec.ofNat 32 b = BitVec.ofNat 32 (a &&& b)
  apply BitVec.eq_of_getLsbD_eq
  intro i hi
  simp [hi]
theorem nb_add {a b : Nat} (i : Nat) (h : b < 2 ^ i) : nI (2 ^ i * a) ||| nI b = nI (2 ^ i * a + b) := by
  rw [Nat.two_pow_add_eq_or_of_lt h, nb_or]
theorem nb_hi (n : Nat) (h : n < 4294967296) : nI n &&& (-128) = nI (128 * (n / 128)) := by
  rw [show (-128 : Int32) = nI 4294967168 from rfl, nb_and]
  congr 1
  apply Nat.eq_of_testBit_eq
  intro i
  rw [Nat.testBit_and, show (128 : Nat) = 2 ^ 7 from rfl, Nat.testBit_two_pow_mul, Nat.testBit_div_two_pow]
  by_cases hi : i < 32
  · have hc : ∀ j, j < 32 → Nat.testBit 4294967168 j = decide (j ≥ 7) := by decide
    rw [hc i hi]
    by_cases h7 : 7 ≤ i
    · rw [show i - 7 + 7 = i by omega]
      simp [h7]
    · simp [h7]
  · have hz : n.testBit i = false := Nat.testBit_lt_two_pow (Nat.lt_of_lt_of_le h (Nat.pow_le_pow_right (n := 2) (by decide) (show 32 ≤ i by omega)))
    rw [hz, show i - 7 + 7 = i by omega, hz]
    simp
theorem nb_mid (n : Nat) (h : n < 131072) : nI n &&& (-65664) = nI (128 * (n / 128 % 512)) := by
  rw [show (-65664 : Int32) = nI 4294901632 from rfl, nb_and]
  congr 1
  apply Nat.eq_of_testBit_eq
  intro i
  rw [Nat.testBit_and, show (128 : Nat) = 2 ^ 7 from rfl, show (512 : Nat) = 2 ^ 9 from rfl, Nat.testBit_two_pow_mul, Nat.testBit_mod_two_pow, Nat.testBit_div_two_pow]
  by_cases hi : i < 17
  · have hc : ∀ j, j < 17 → Nat.testBit 4294901632 j = decide (j ≥ 7 ∧ j - 7 < 9) := by decide
    rw [hc i hi]
    by_cases h7 : 7 ≤ i
    · rw [show i - 7 + 7 = i by omega]
      by_cases h9 : i - 7 < 9 <;> simp [h7, h9]
    · simp [h7]
  · have hz : n.testBit i = false := Nat.testBit_lt_two_pow (Nat.lt_of_lt_of_le h (Nat.pow_le_pow_right (n := 2) (by decide) (show 17 ≤ i by omega)))
    rw [hz, show i - 7 + 7 = i by omega, hz]
    simp
theorem nb_typ (n : Nat) (h : n < 131072) : nI n &&& 65536 = 0 ↔ n < 65536 := by
  have e : n &&& 2 ^ 16 = 2 ^ 16 * (n / 2 ^ 16 % 2 ^ 1) := by
    apply Nat.eq_of_testBit_eq
    intro i
    rw [Nat.testBit_and, Nat.testBit_two_pow_mul, Nat.testBit_mod_two_pow, Nat.testBit_div_two_pow, Nat.testBit_two_pow]
    by_cases hi : i = 16
    · subst hi
      simp
    · by_cases h2 : 16 ≤ i
      · simp [show ¬ i - 16 < 1 by omega, show ¬ 16 = i by omega]
      · simp [h2, show ¬ 16 = i by omega]
  rw [show (65536 : Int32) = nI (2 ^ 16) from rfl, nb_and, e, show (0 : Int32) = nI 0 from rfl, nI_eq (by omega) (by decide)]
  omega
/-! what the class reads of a packed state -/
theorem ps_lt {m : Nat} {s : St} (hm : m ≤ 100) (hs : vS m s) : ps s < 131072 := by
  obtain ⟨h1, h2, h3, h4, h5⟩ := hs
  unfold ps
  omega
theorem ps_sh {m : Nat} {s : St} (hm : m ≤ 100) (hs : vS m s) : nI (ps s) &&& 127 = nI s.1 := by
  have hl := ps_lt hm hs
  rw [pk_andN (by omega) (m := 127) 7 rfl]
  congr 1
  obtain ⟨h1, h2, h3, h4, h5⟩ := hs
  unfold ps
  omega
theorem ps_he {m : Nat} {s : St} (hm : m ≤ 100) (hs : vS m s) : (nI (ps s) >>> ((7 : Int32) &&& 31)) &&& 127 = nI s.2.2.1 := by
  have hl := ps_lt hm hs
  rw [pk_shrN (by omega) _ 7 rfl, pk_andN (by omega) (m := 127) 7 rfl]
  congr 1
  obtain ⟨h1, h2, h3, h4, h5⟩ := hs
  unfold ps
  omega
theorem ps_si {m : Nat} {s : St} (hm : m ≤ 100) (hs : vS m s) : (nI (ps s) >>> ((14 : Int32) &&& 31)) &&& 3 = nI s.2.1 := by
  have hl := ps_lt hm hs
  rw [pk_shrN (by omega) _ 14 rfl, pk_andN (by omega) (m := 3) 2 rfl]
  congr 1
  obtain ⟨h1, h2, h3, h4, h5⟩ := hs
  unfold ps
  omega
theorem ps_ty {m : Nat} {s : St} (hm : m ≤ 100) (hs : vS m s) : nI (ps s) &&& 65536 = 0 ↔ s.2.2.2 = 0 := by
  rw [nb_typ _ (ps_lt hm hs)]
  obtain ⟨h1, h2, h3, h4, h5⟩ := hs
  unfold ps
  omega
