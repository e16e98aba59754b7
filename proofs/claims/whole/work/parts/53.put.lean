/-! SortSet.put -/
theorem orbit {w : Int64} {x : Int} {j : Nat} (hx : 0 ≤ x ∧ x < 1536) (hj : j < 64) : (w ||| ((Int64.ofNat ((1 : Fin 2) : Nat)) <<< ((Int32.ofInt (iand x 63)).toInt64 &&& 63))).toBitVec.getLsbD j = (w.toBitVec.getLsbD j || decide (x.toNat % 64 = j)) := by
  rw [iand_63 (by omega)]
  obtain ⟨a, rfl⟩ := nat_of_int hx.1
  have e : (a : Int) % 64 = ((a % 64 : Nat) : Int) := by omega
  have hk : a % 64 < 64 := Nat.mod_lt _ (by decide)
  rw [e, ofi_nat, Int.toNat_natCast]
  have e2 : (Int64.ofNat ((1 : Fin 2) : Nat)) <<< ((nI (a % 64)).toInt64 &&& 63) = lN (2 ^ (a % 64)) := by
    have h1 := wb_shl 1 hk
    rw [Nat.one_mul] at h1
    exact h1
  rw [e2, Int64.toBitVec_or, BitVec.getLsbD_or, wb_tb, BitVec.getLsbD_ofNat, Nat.testBit_two_pow]
  simp [hj]
theorem v_261 {sc : Nat × (Nat → Int)} {I : IH} {L : LH} {R : RH} {K : KH} {Q : AQ} {a0 : Int} {t : Nat} (hL : Lay R K) (hs : SetAt R K t) (hx : 0 ≤ a0 ∧ a0 < 1536) (h : ∀ L1 : LH, (∀ b j, b ≠ rf R t 0 → L1 b j = L b j) → (∀ s, s < 1536 → (inSet L1 (rf R t 0) s ↔ inSet L (rf R t 0) s ∨ s = a0.toNat)) → Q none I L1 R K) : E sc 261 0 [some (aR (some t)), some (aI a0)] [] I L R K Q := by
  have h6 := ishr6 hx
  refine w_261_0 hL ⟨fun q1 => by omega, fun q1 => ⟨fun q2 => by omega, fun q2 => ⟨⟨hs.1, hs.2.1⟩, ⟨hs.2.2.1, by rw [hs.2.2.2]; omega⟩, ⟨hs.2.2.1, by rw [hs.2.2.2]; omega⟩, h _ ?_ ?_⟩⟩⟩
  · intro b j hb
    unfold setF
    rw [if_neg (fun q => hb q.1)]
  · intro s hsn
    unfold setF
    show ((if rf R t 0 = rf R t 0 ∧ s / 64 = (ishr a0 6).toNat then _ else _ : Int64)).toBitVec.getLsbD (s % 64) = true ↔ _
    rw [h6.1]
    by_cases e : s / 64 = a0.toNat / 64
    · rw [if_pos ⟨rfl, e⟩, orbit hx (Nat.mod_lt _ (by decide)), Bool.or_eq_true, decide_eq_true_iff]
      unfold inSet
      rw [e]
      constructor
      · rintro (q | q)
        · exact Or.inl q
        · exact Or.inr (by omega)
      · rintro (q | q)
        · exact Or.inl q
        · exact Or.inr (by omega)
    · rw [if_neg (fun q => e q.2)]
      constructor
      · exact Or.inl
      · rintro (q | q)
        · exact q
        · exact absurd (by rw [q]) e
