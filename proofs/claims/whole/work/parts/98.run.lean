/-! OPEN: the law's run -/
theorem law_run {L : Nat} {xs : Nat → Int32} (hL : L ≤ 448) : ∃ (f : Nat) (I1 : IH) (L1 : LH) (R1 : RH) (K1 : KH), amRun (L, fun j => (xs j).toInt) f mLaw 0 (padL 4 (mkL [aF 0])) [] I0 L0 R0 K0 = some (some (aI 1), I1, L1, R1, K1) ∧ K1.2.2.1 ≤ 600000 ∧ K1.2.2.2 ≤ 7302250 := sorry
