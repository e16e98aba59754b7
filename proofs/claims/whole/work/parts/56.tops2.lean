/-! rankOf, endOf, joined -/
def jn (top r e : Int) : Int := if top / 256 < r + 1 then (r + 1) * 256 + (e + 3) else if top / 256 = r + 1 ∧ top % 256 ≠ e + 3 then (r + 1) * 256 + 1 else top
section
variable {sc : Nat × (Nat → Int)} {I : IH} {L : LH} {R : RH} {K : KH} {Q : AQ} {a0 a1 a2 : Int}
theorem v_62 (hL : Lay R K) (p0 : 0 ≤ a0 ∧ a0 < 65536) (h : Q (some (aI (a0 / 256 - 1))) I L R K) : E sc 62 0 [some (aI a0)] [] I L R K Q := by
  have e := ishr_8 (x := a0) (by omega)
  exact w_62_0 hL ⟨by rw [e]; omega, by rw [e]; exact h⟩
theorem v_63 (hL : Lay R K) (p0 : 0 ≤ a0 ∧ a0 < 65536) (h : Q (some (aI (a0 % 256 - 3))) I L R K) : E sc 63 0 [some (aI a0)] [] I L R K Q := by
  have e := iand_255 (x := a0) (by omega)
  exact w_63_0 hL ⟨by rw [e]; omega, by rw [e]; exact h⟩
theorem v_64 (hL : Lay R K) (p0 : 0 ≤ a0 ∧ a0 < 65536) (p1 : 0 ≤ a1 ∧ a1 ≤ 9) (p2 : 0 ≤ a2 ∧ a2 ≤ 203) (h : Q (some (aI (jn a0 a1 a2))) I L R K) : E sc 64 0 [some (aI a0), some (aI a1), some (aI a2), none, none, none] [] I L R K Q := by
  have key : ∀ z : Int, z = jn a0 a1 a2 → Q (some (aI z)) I L R K := fun z e => e ▸ h
  have e1 := iand_255 (x := a0) (by omega)
  have e2 := iand_m256 (x := a0) (by omega)
  have e3 : ishl (a1 + 1) 8 = (a1 + 1) * 256 := by
    have h1 := ishl_nat (a := (a1 + 1).toNat) (n := 8) (by omega) (by omega)
    rw [show (((a1 + 1).toNat : Nat) : Int) = a1 + 1 by omega] at h1
    rw [show (8 : Int) = ((8 : Nat) : Int) from rfl, h1]
    omega
  have e4 : ∀ y : Int, 0 ≤ y ∧ y < 256 → ior ((a1 + 1) * 256) y = (a1 + 1) * 256 + y := by
    intro y hy
    have h1 := ior_256 (q := (a1 + 1).toNat) (y := y.toNat) (by omega) (by omega)
    rw [show ((((a1 + 1).toNat * 256 : Nat)) : Int) = (a1 + 1) * 256 by omega, show ((y.toNat : Nat) : Int) = y by omega] at h1
    rw [h1]
    omega
  refine w_64_0 hL ?_
  rw [e1, e2, e3, e4 1 (by omega), e4 (a2 + 3) (by omega)]
  refine ⟨(by omega), ⟨fun q1 => ⟨fun q2 => (key _ (by unfold jn; (repeat' split) <;> omega)), fun q2 => ⟨(by omega), ⟨fun q3 => (key _ (by unfold jn; (repeat' split) <;> omega)), fun q3 => (key _ (by unfold jn; (repeat' split) <;> omega))⟩⟩⟩, fun q1 => ⟨(by omega), (key _ (by unfold jn; (repeat' split) <;> omega))⟩⟩⟩
end
