/-! sets of sorts: their bits -/
theorem lg0 (x y : Int64) : (lg_cmp x y).toInt = 0 ↔ x = y := by
  unfold lg_cmp
  by_cases h : x = y
  · subst h
    simp
  · simp only [h, if_false, iff_false]
    split <;> decide
/-- a sort's bit in a set's words -/
abbrev inSet (L : LH) (w s : Nat) : Prop := (L w (s / 64)).toBitVec.getLsbD (s % 64) = true
theorem wbit0 {w : Int64} {x : Int} (hx : 0 ≤ x ∧ x < 1536) : (lg_cmp ((w.toUInt64 >>> ((Int32.ofInt (iand x 63)).toInt64.toUInt64 &&& Int64.toUInt64 63)).toInt64 &&& (Int64.ofNat ((1 : Fin 2) : Nat))) (Int64.ofNat ((0 : Fin 2) : Nat))).toInt = 0 ↔ w.toBitVec.getLsbD (x.toNat % 64) = false := by
  rw [lg0, iand_63 (by omega)]
  obtain ⟨a, rfl⟩ := nat_of_int hx.1
  have e : (a : Int) % 64 = ((a % 64 : Nat) : Int) := by omega
  rw [e, ofi_nat, Int.toNat_natCast]
  have hj : a % 64 < 64 := Nat.mod_lt _ (by decide)
  rw [wb_cu _ hj]
  exact ts_bit hj (by rw [UInt64.toNat_ofNat']; omega)
theorem ishr6 {x : Int} (h : 0 ≤ x ∧ x < 1536) : (ishr x 6).toNat = x.toNat / 64 ∧ 0 ≤ ishr x 6 ∧ ishr x 6 < 24 := by
  rw [ishr_6 (by omega)]
  omega
def SetAt (R : RH) (K : KH) (t : Nat) : Prop := K.1 t = 7 ∧ R t 0 = some (rf R t 0) ∧ K.1 (rf R t 0) = 102 ∧ K.2.1 (rf R t 0) = 24
