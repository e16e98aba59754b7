/-! shifts and ands of ints that are not below 0 -/
theorem ofi_nat (n : Nat) : Int32.ofInt (n : Int) = nI n := Int32.toBitVec_inj.mp (by show BitVec.ofInt 32 (n : Int) = BitVec.ofNat 32 n; exact BitVec.ofInt_natCast 32 n)
theorem ishr_eq {x : Int} {n : Nat} (hx : -2147483648 ≤ x ∧ x < 2147483648) (hn : n < 32) : ishr x (n : Int) = x / 2 ^ n := by
  unfold ishr
  rw [ofi_nat]
  show ((Int32.ofInt x).toBitVec.sshiftRight ((nI n &&& 31).toBitVec.smod 32).toNat).toInt = _
  rw [s_l n hn, BitVec.toInt_sshiftRight, Int.shiftRight_eq_div_pow]
  show (Int32.ofInt x).toInt / _ = _
  rw [ofi_eq hx]
  simp
theorem iand_nat {a b : Nat} (h : a < 2147483648) : iand (a : Int) (b : Int) = ((a &&& b : Nat) : Int) := by
  unfold iand
  rw [ofi_nat, ofi_nat, nx_and, ← ofi_nat]
  have := @Nat.and_le_left a b
  exact ofi_eq (by omega)
theorem iand_1 {x : Int} (h : 0 ≤ x ∧ x < 2147483648) : iand x 1 = x % 2 := by
  obtain ⟨a, rfl⟩ := nat_of_int h.1
  rw [show (1 : Int) = ((1 : Nat) : Int) from rfl, iand_nat (by omega), Nat.and_one_is_mod]
  omega
theorem iand_63 {x : Int} (h : 0 ≤ x ∧ x < 2147483648) : iand x 63 = x % 64 := by
  obtain ⟨a, rfl⟩ := nat_of_int h.1
  rw [show (63 : Int) = ((63 : Nat) : Int) from rfl, iand_nat (by omega), show (63 : Nat) = 2 ^ 6 - 1 from rfl, Nat.and_two_pow_sub_one_eq_mod]
  omega
theorem iand_255 {x : Int} (h : 0 ≤ x ∧ x < 2147483648) : iand x 255 = x % 256 := by
  obtain ⟨a, rfl⟩ := nat_of_int h.1
  rw [show (255 : Int) = ((255 : Nat) : Int) from rfl, iand_nat (by omega), show (255 : Nat) = 2 ^ 8 - 1 from rfl, Nat.and_two_pow_sub_one_eq_mod]
  omega
theorem ishr_6 {x : Int} (h : 0 ≤ x ∧ x < 2147483648) : ishr x 6 = x / 64 := by
  rw [show (6 : Int) = ((6 : Nat) : Int) from rfl, ishr_eq (by omega) (by omega)]
  omega
theorem ishr_8 {x : Int} (h : 0 ≤ x ∧ x < 2147483648) : ishr x 8 = x / 256 := by
  rw [show (8 : Int) = ((8 : Nat) : Int) from rfl, ishr_eq (by omega) (by omega)]
  omega
/-- the bit of a set that is an int -/
theorem ibit {x : Int} {n : Nat} (hx : 0 ≤ x ∧ x < 2147483648) (hn : n < 31) : iand (ishr x (n : Int)) 1 = x / 2 ^ n % 2 := by
  rw [ishr_eq (by omega) (by omega)]
  have h1 : 0 ≤ x / 2 ^ n := Int.ediv_nonneg hx.1 (Int.le_of_lt (Int.pow_pos (by decide)))
  have h2 : x / 2 ^ n ≤ x := Int.ediv_le_self _ hx.1
  exact iand_1 ⟨h1, by omega⟩
theorem ishl_nat {a n : Nat} (h : a * 2 ^ n < 2147483648) (hn : n < 32) : ishl (a : Int) (n : Int) = ((a * 2 ^ n : Nat) : Int) := by
  unfold ishl
  rw [ofi_nat, ofi_nat]
  have e : nI a <<< (nI n &&& 31) = nI (a * 2 ^ n) := by
    apply Int32.toBitVec_inj.mp
    rw [Int32.toBitVec_shiftLeft]
    show (BitVec.ofNat 32 a) <<< ((nI n &&& 31).toBitVec.smod 32).toNat = BitVec.ofNat 32 (a * 2 ^ n)
    rw [s_l n hn]
    apply BitVec.eq_of_toNat_eq
    rw [BitVec.toNat_shiftLeft, BitVec.toNat_ofNat, BitVec.toNat_ofNat, Nat.shiftLeft_eq, Nat.mod_mul_mod]
  rw [e, ← ofi_nat]
  exact ofi_eq (by omega)
