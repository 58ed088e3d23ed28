section JII
/-- whole numbers as ints of the machine -/
def ii (z : Int) : Int32 := Int32.ofInt z
theorem ii_add (a b : Int) : ii a + ii b = ii (a + b) := by simp [ii, Int32.ofInt_add]
theorem ii_sub (a b : Int) : ii a - ii b = ii (a - b) := by simp [ii, Int32.ofInt_sub]
theorem ii_mul (a b : Int) : ii a * ii b = ii (a * b) := by simp [ii, Int32.ofInt_mul]
theorem ii_neg (a : Int) : -ii a = ii (-a) := by simp [ii, Int32.ofInt_neg]
theorem ii_lit (n : Nat) : (OfNat.ofNat n : Int32) = ii (OfNat.ofNat n) := by
  show Int32.ofNat n = Int32.ofInt n
  first | rfl | exact (Int32.ofInt_eq_ofNat ..).symm | exact Int32.ofNat_eq_ofInt .. | (apply Int32.toInt_inj.mp; simp [Int32.toInt_ofInt, Int32.toInt_ofNat']) | (apply Int32.toBitVec_inj.mp; rfl)
theorem ii_toInt {z : Int} (h1 : -2147483648 ≤ z) (h2 : z < 2147483648) : (ii z).toInt = z := by
  rw [ii, Int32.toInt_ofInt]
  apply Int.bmod_eq_of_le <;> simp [Int32.size] <;> omega
theorem ii_self (x : Int32) : ii x.toInt = x := by simp [ii]
theorem ii_rng (x : Int32) : -2147483648 ≤ x.toInt ∧ x.toInt < 2147483648 := by
  have h1 := Int32.le_toInt x
  have h2 := Int32.toInt_lt x
  omega
theorem ii_ex (x : Int32) : ∃ z : Int, x = ii z ∧ -2147483648 ≤ z ∧ z < 2147483648 := ⟨x.toInt, (ii_self x).symm, (ii_rng x).1, (ii_rng x).2⟩
/-- in the range of the machine's ints -/
abbrev ir (z : Int) : Prop := -2147483648 ≤ z ∧ z < 2147483648
theorem ii_lt {a b : Int} (ha : ir a) (hb : ir b) : ii a < ii b ↔ a < b := by
  rw [Int32.lt_iff_toInt_lt, ii_toInt ha.1 ha.2, ii_toInt hb.1 hb.2]
theorem ii_le {a b : Int} (ha : ir a) (hb : ir b) : ii a ≤ ii b ↔ a ≤ b := by
  rw [Int32.le_iff_toInt_le, ii_toInt ha.1 ha.2, ii_toInt hb.1 hb.2]
theorem ii_eq {a b : Int} (ha : ir a) (hb : ir b) : ii a = ii b ↔ a = b := by
  rw [← Int32.toInt_inj, ii_toInt ha.1 ha.2, ii_toInt hb.1 hb.2]
theorem ii_nat {a : Int} (h0 : 0 ≤ a) (h : a < 2147483648) : (ii a).toNatClampNeg = a.toNat := by
  show (ii a).toInt.toNat = _
  rw [ii_toInt (by omega) h]
theorem ii_natN {j : Nat} (h : j < 2147483648) : (ii (j : Int)).toNatClampNeg = j := by
  rw [ii_nat (by omega) (by omega)]; simp
theorem ii_in {a : Int} {n : Nat} (h0 : 0 ≤ a) (h : a < n) (hn : n ≤ 2147483648) : vp_in (ii a) n := by
  rw [vp_in_iff, ii_toInt (by omega) (by omega)]
  omega
theorem ii_div {a b : Int} (ha : 0 ≤ a) (ha2 : a < 2147483648) (hb : 0 < b) (hb2 : b < 2147483648) : ii a / ii b = ii (a / b) := by
  rw [← Int32.toInt_inj, Int32.toInt_div, ii_toInt (by omega) ha2, ii_toInt (by omega) hb2, Int.tdiv_eq_ediv_of_nonneg ha]
  have h1 : 0 ≤ a / b := Int.ediv_nonneg ha (by omega)
  have h2 : a / b ≤ a := Int.ediv_le_self _ ha
  rw [ii_toInt (by omega) (by omega)]
  apply Int.bmod_eq_of_le <;> simp [Int32.size] <;> omega
theorem ii_rem {a b : Int} (ha : 0 ≤ a) (ha2 : a < 2147483648) (hb : 0 < b) (hb2 : b < 2147483648) : ii a - ii a / ii b * ii b = ii (a % b) := by
  rw [ii_div ha ha2 hb hb2, ii_mul, ii_sub]
  congr 1
  have := Int.mul_ediv_add_emod a b
  rw [Int.mul_comm] at this
  omega
theorem ii_0 : (0 : Int32) = ii 0 := by decide
theorem ii_1 : (1 : Int32) = ii 1 := by decide
theorem ii_2 : (2 : Int32) = ii 2 := by decide
theorem ii_3 : (3 : Int32) = ii 3 := by decide
theorem ii_4 : (4 : Int32) = ii 4 := by decide
theorem ii_m1 : (-1 : Int32) = ii (-1) := by decide
end JII
