/-! tops in numbers -/
theorem ni_or (a b : Nat) : nI a ||| nI b = nI (a ||| b) := by
  apply Int32.toBitVec_inj.mp
  rw [Int32.toBitVec_or]
  apply BitVec.eq_of_getLsbD_eq
  intro i hi
  rw [BitVec.getLsbD_or]
  show ((BitVec.ofNat 32 a).getLsbD i || (BitVec.ofNat 32 b).getLsbD i) = (BitVec.ofNat 32 (a ||| b)).getLsbD i
  rw [BitVec.getLsbD_ofNat, BitVec.getLsbD_ofNat, BitVec.getLsbD_ofNat, Nat.testBit_or]
  cases decide (i < 32) <;> simp
theorem ior_256 {q y : Nat} (hq : q < 1000) (hy : y < 256) : ior ((q * 256 : Nat) : Int) (y : Int) = ((q * 256 + y : Nat) : Int) := by
  unfold ior
  rw [ofi_nat, ofi_nat, ni_or, ← ofi_nat]
  have e : q * 256 ||| y = q * 256 + y := by
    have h := Nat.two_pow_add_eq_or_of_lt (i := 8) (b := y) (by omega) q
    rw [show (2 : Nat) ^ 8 = 256 from rfl, Nat.mul_comm] at h
    exact h.symm
  rw [e]
  exact ofi_eq (by omega)
theorem and_hi {a : Nat} (h : a < 2147483648) : a &&& 4294967040 = a / 256 * 256 := by
  apply Nat.eq_of_testBit_eq
  intro j
  have e1 : (4294967040 : Nat) = (2 ^ 24 - 1) <<< 8 := by decide
  have e2 : a / 256 * 256 = (a >>> 8) <<< 8 := by rw [Nat.shiftLeft_eq, Nat.shiftRight_eq_div_pow]
  rw [e1, e2, Nat.testBit_and, Nat.testBit_shiftLeft, Nat.testBit_shiftLeft, Nat.testBit_two_pow_sub_one, Nat.testBit_shiftRight]
  by_cases h8 : 8 ≤ j
  · have e3 : 8 + (j - 8) = j := by omega
    rw [e3]
    by_cases h32 : j < 32
    · have h4 : j - 8 < 24 := by omega
      simp [h8, h4]
    · have h5 : a.testBit j = false := Nat.testBit_lt_two_pow (Nat.lt_of_lt_of_le h (Nat.le_trans (by decide : 2147483648 ≤ 2 ^ 32) (Nat.pow_le_pow_right (by decide) (by omega))))
      simp [h5]
  · have h6 : ¬ j ≥ 8 := h8
    simp [h6]
theorem iand_m256 {x : Int} (h : 0 ≤ x ∧ x < 2147483648) : iand x (-256) = x / 256 * 256 := by
  obtain ⟨a, rfl⟩ := nat_of_int h.1
  unfold iand
  have e : Int32.ofInt (-256) = nI 4294967040 := by decide +kernel
  rw [ofi_nat, e, nx_and, and_hi (by omega), ← ofi_nat, ofi_eq (by omega)]
  omega
