/-! ===== whole numbers in ints ===== -/
def iz (z : Int) : Int32 := Int32.ofInt z
def iR (z : Int) : Prop := -2147483648 ≤ z ∧ z < 2147483648
theorem iz_toInt {z : Int} (h1 : -2147483648 ≤ z) (h2 : z < 2147483648) : (iz z).toInt = z := by
  unfold iz
  have e : Int32.size = 4294967296 := rfl
  rw [Int32.toInt_ofInt, e]
  exact Int.bmod_eq_of_le (by omega) (by omega)
theorem iz_of (x : Int32) : x = iz x.toInt := by
  unfold iz
  rw [Int32.ofInt_toInt]
theorem iz_rng (x : Int32) : -2147483648 ≤ x.toInt ∧ x.toInt < 2147483648 := ⟨Int32.le_toInt x, Int32.toInt_lt x⟩
theorem iz_add (a b : Int) : iz a + iz b = iz (a + b) := (Int32.ofInt_add a b).symm
theorem iz_sub (a b : Int) : iz a - iz b = iz (a - b) := (Int32.ofInt_sub a b).symm
theorem iz_mul (a b : Int) : iz a * iz b = iz (a * b) := (Int32.ofInt_mul a b).symm
theorem iz_neg (a : Int) : - iz a = iz (-a) := (Int32.ofInt_neg a).symm
theorem iz_lt {a b : Int} (a1 : -2147483648 ≤ a) (a2 : a < 2147483648) (b1 : -2147483648 ≤ b) (b2 : b < 2147483648) : iz a < iz b ↔ a < b := by
  rw [Int32.lt_iff_toInt_lt, iz_toInt a1 a2, iz_toInt b1 b2]
theorem iz_le {a b : Int} (a1 : -2147483648 ≤ a) (a2 : a < 2147483648) (b1 : -2147483648 ≤ b) (b2 : b < 2147483648) : iz a ≤ iz b ↔ a ≤ b := by
  rw [Int32.le_iff_toInt_le, iz_toInt a1 a2, iz_toInt b1 b2]
theorem iz_eq {a b : Int} (a1 : -2147483648 ≤ a) (a2 : a < 2147483648) (b1 : -2147483648 ≤ b) (b2 : b < 2147483648) : iz a = iz b ↔ a = b := by
  rw [← Int32.toInt_inj, iz_toInt a1 a2, iz_toInt b1 b2]
theorem iz_nI (n : Nat) : nI n = iz n := by
  unfold nI iz
  exact (Int32.ofInt_eq_ofNat).symm
theorem iz_clamp {a : Int} (a1 : -2147483648 ≤ a) (a2 : a < 2147483648) : (iz a).toNatClampNeg = a.toNat := by
  show (iz a).toInt.toNat = a.toNat
  rw [iz_toInt a1 a2]
theorem iz_in {a : Int} {n : Nat} (h1 : 0 ≤ a) (h2 : a < n) (hn : a < 2147483648) : vp_in (iz a) n := by
  rw [vp_in_iff, iz_toInt (by omega) hn]
  exact ⟨h1, h2⟩
theorem iz_div {a b : Int} (ha : 0 ≤ a) (a2 : a < 2147483648) (hb : 0 < b) (b2 : b < 2147483648) : iz a / iz b = iz (a / b) := by
  obtain ⟨n, rfl⟩ := Int.eq_ofNat_of_zero_le ha
  obtain ⟨m, rfl⟩ := Int.eq_ofNat_of_zero_le (Int.le_of_lt hb)
  rw [← iz_nI, ← iz_nI, pk_div (by omega) (by omega) (by omega), iz_nI]
  rfl
theorem iz_rem {a b : Int} (ha : 0 ≤ a) (a2 : a < 2147483648) (hb : 0 < b) (b2 : b < 2147483648) : iz a - iz a / iz b * iz b = iz (a % b) := by
  rw [iz_div ha a2 hb b2, iz_mul, iz_sub]
  congr 1
  have := Int.mul_ediv_add_emod a b
  rw [Int.mul_comm] at this
  omega
theorem iz_ne0 {b : Int} (hb : b ≠ 0) (b1 : -2147483648 ≤ b) (b2 : b < 2147483648) : ¬ iz b = 0 := by
  rw [show (0 : Int32) = iz 0 from rfl, iz_eq b1 b2 (by omega) (by omega)]
  exact hb
theorem iz_0 : (0 : Int32) = iz 0 := rfl
theorem iz_1 : (1 : Int32) = iz 1 := rfl
theorem iz_m1 : (-1 : Int32) = iz (-1) := rfl
theorem iz_lit (n : Nat) : (OfNat.ofNat n : Int32) = iz (OfNat.ofNat n : Int) := iz_nI n
theorem iz_ofN (n : Nat) : Int32.ofNat n = iz n := iz_nI n
theorem iz_ltI {x y : Int32} : x < y ↔ x.toInt < y.toInt := Int32.lt_iff_toInt_lt
theorem iz_leI {x y : Int32} : x ≤ y ↔ x.toInt ≤ y.toInt := Int32.le_iff_toInt_le
theorem iz_eqI {x y : Int32} : x = y ↔ x.toInt = y.toInt := Int32.toInt_inj.symm
theorem iz_cl (x : Int32) : x.toNatClampNeg = x.toInt.toNat := rfl
theorem iz_vin {x : Int32} {n : Nat} (h1 : 0 ≤ x.toInt) (h2 : x.toInt < n) : vp_in x n := vp_in_iff.mpr ⟨h1, h2⟩
theorem iz_T0 : (0 : Int32).toInt = 0 := rfl
theorem iz_Tm1 : (-1 : Int32).toInt = -1 := rfl
theorem iz_TN {n : Nat} (h : n < 2147483648) : (Int32.ofNat n).toInt = n := nI_toInt (by omega)
