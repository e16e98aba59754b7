/-! Rules.at -/
theorem v_233 {sc : Nat × (Nat → Int)} {I : IH} {L : LH} {R : RH} {K : KH} {Q : AQ} {a0 : Int} (hL : Lay R K) (p0 : 0 ≤ a0 ∧ a0 < 80) (p1 : R 3 a0.toNat = some (rf R 3 a0.toNat)) (h : Q (some (aR (some (rf R 3 a0.toNat)))) I L R K) : E sc 233 0 [some (aR (some 2)), some (aI a0)] [] I L R K Q := w_233_0 hL ⟨⟨p0, p1⟩, h⟩
