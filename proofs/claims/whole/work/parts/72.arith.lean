/-! numbers: masks and remainders -/
theorem rg_and7 (a : Nat) : nI a &&& 7 = nI (a % 8) := by
  unfold nI
  apply Int32.toBitVec_inj.mp
  apply BitVec.eq_of_toNat_eq
  simp only [Int32.toBitVec_and, Int32.toBitVec_ofNat', BitVec.toNat_and, BitVec.toNat_ofNat]
  have : (7 : Int32).toBitVec.toNat = 2 ^ 3 - 1 := by decide
  rw [this, Nat.and_two_pow_sub_one_eq_mod]
  omega
theorem rg_and3 (a : Nat) : nI a &&& 3 = nI (a % 4) := by
  unfold nI
  apply Int32.toBitVec_inj.mp
  apply BitVec.eq_of_toNat_eq
  simp only [Int32.toBitVec_and, Int32.toBitVec_ofNat', BitVec.toNat_and, BitVec.toNat_ofNat]
  have : (3 : Int32).toBitVec.toNat = 2 ^ 2 - 1 := by decide
  rw [this, Nat.and_two_pow_sub_one_eq_mod]
  omega
theorem rg_sub7 (a b : Nat) : (nI a - nI b) &&& 7 = nI ((a + 7 * b) % 8) := by
  unfold nI
  apply Int32.toBitVec_inj.mp
  apply BitVec.eq_of_toNat_eq
  simp only [Int32.toBitVec_and, Int32.toBitVec_sub, Int32.toBitVec_ofNat', BitVec.toNat_and, BitVec.toNat_sub, BitVec.toNat_ofNat]
  have : (7 : Int32).toBitVec.toNat = 2 ^ 3 - 1 := by decide
  rw [this, Nat.and_two_pow_sub_one_eq_mod]
  omega
theorem rg_div8 {a : Nat} (h : a < 2 ^ 31) : nI a / 8 = nI (a / 8) := by
  apply Int32.toInt_inj.mp
  have h8 : (8 : Int32).toInt = 8 := by decide
  rw [Int32.toInt_div, nI_toInt h, h8, nI_toInt (by omega), Int.bmod_def]
  have : ((a : Int).tdiv 8) = ((a / 8 : Nat) : Int) := by
    rw [Int.tdiv_eq_ediv_of_nonneg (by omega)]
    omega
  rw [this]
  split <;> omega
theorem rg_rem8 {a : Nat} (h : a < 2 ^ 31) : rr_rem (nI a) 8 = nI (a % 8) := by
  unfold rr_rem
  rw [rg_div8 h]
  apply Int32.toInt_inj.mp
  have h8 : (8 : Int32).toInt = 8 := by decide
  rw [Int32.toInt_sub, Int32.toInt_mul, nI_toInt h, h8, nI_toInt (by omega), nI_toInt (by omega), Int.bmod_def, Int.bmod_def]
  split <;> split <;> omega
theorem rg_remp : ∀ m, m < 6 → 0 < m → ∀ a, a < 7 → a ≤ m → rr_rem (nI a) (nI m) = nI (if a < m then a else 0) := by decide +kernel
theorem rg_sub {a b : Nat} (h : b ≤ a) : nI a - nI b = nI (a - b) := by
  have : nI (a - b) + nI b = nI a := by rw [nI_add, Nat.sub_add_cancel h]
  rw [← this]
  exact Int32.add_sub_cancel _ _
/-- many, as the reference counts it -/
theorem rg_many {z f : Nat} (hz : z < 8) (hf : f < 2 ^ 31) : rr_rem (nI z - rr_rem (nI f) 8 + 8) 8 = nI ((z + 7 * f) % 8) := by
  rw [rg_rem8 hf]
  have e : nI z - nI (f % 8) + 8 = nI (z + 8 - f % 8) := by
    have h1 : nI (z + 8 - f % 8) = nI (z + 8) - nI (f % 8) := (rg_sub (by omega)).symm
    rw [h1, ← nI_add z 8]
    have : (8 : Int32) = nI 8 := rfl
    rw [this, Int32.sub_eq_add_neg, Int32.sub_eq_add_neg, Int32.add_assoc, Int32.add_assoc, Int32.add_comm (-nI (f % 8))]
  rw [e, rg_rem8 (by omega)]
  congr 1
  omega
