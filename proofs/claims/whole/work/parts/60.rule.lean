/-! Rule.standingAsKnown, group -/
def RuleAt (R : RH) (K : KH) (t : Nat) : Prop := K.1 t = 4 ∧ R t 7 = some (rf R t 7) ∧ K.1 (rf R t 7) = 100 ∧ K.2.1 (rf R t 7) = 20
def fellF (I : IH) (R : RH) (t : Nat) (k : Int) : Nat → Int := fun (j : Nat) => (if I (rf R t 7) j ≤ k then 1 else 0 : Int)
theorem v_229 {sc : Nat × (Nat → Int)} {I : IH} {L : LH} {R : RH} {K : KH} {Q : AQ} {a0 : Int} {t : Nat} (hL : Lay R K) (hr : RuleAt R K t) (p0 : 0 ≤ I t 8 ∧ I t 8 ≤ 20) (p1 : 0 ≤ I t 6 ∧ I t 6 ≤ 20) (h : Q (some (aI (I t 6 - sumTo (fellF I R t a0) (I t 8).toNat))) I L R K) : E sc 229 0 [some (aR (some t)), some (aI a0), none, none] [] I L R K Q := by
  obtain ⟨r1, r2, r3, r4⟩ := hr
  have hB : ∀ j, j < (I t 8).toNat → fellF I R t a0 j ≤ 1 ∧ -1 ≤ fellF I R t a0 j := by
    intro j _
    unfold fellF
    split <;> omega
  have hb := sumTo_le (f := fellF I R t a0) (B := 1) (m := (I t 8).toNat) (by omega) hB
  have key : (fun (i : Nat) => ∀ (s k : Int), s = I t 6 - sumTo (fellF I R t a0) i → k = (i : Int) → E sc 229 7 [some (aR (some t)), some (aI a0), some (aI s), some (aI k)] [] I L R K Q) 0 := by
    refine loop_up (C := fun (i : Nat) => ∀ (s k : Int), s = I t 6 - sumTo (fellF I R t a0) i → k = (i : Int) → E sc 229 7 [some (aR (some t)), some (aI a0), some (aI s), some (aI k)] [] I L R K Q) (I t 8).toNat ?_ ?_
    · intro i hi hc s k hs hk
      subst hk
      have b1 := hb i (by omega)
      have e : fellF I R t a0 i = (if I (rf R t 7) i ≤ a0 then 1 else 0 : Int) := rfl
      refine w_229_7 hL ⟨r1, fun q1 => by omega, fun q1 => ⟨⟨r1, r2⟩, ⟨r3, by rw [r4]; omega⟩, fun q2 => ⟨by omega, hc _ _ ?_ (by omega)⟩, fun q2 => ⟨by omega, by omega, hc _ _ ?_ (by omega)⟩⟩⟩
      · rw [Int.toNat_natCast] at q2
        rw [sumTo_succ, e, if_neg (by omega)]; omega
      · rw [Int.toNat_natCast] at q2
        rw [sumTo_succ, e, if_pos (by omega)]; omega
    · intro s k hs hk
      exact w_229_7 hL ⟨r1, fun _ => by rw [hs]; exact h, fun q1 => by omega⟩
  exact w_229_0 hL ⟨r1, key _ _ (by show _ = I t 6 - 0; omega) rfl⟩
theorem v_224 {sc : Nat × (Nat → Int)} {I : IH} {L : LH} {R : RH} {K : KH} {Q : AQ} {t : Nat} (hL : Lay R K) (hr : K.1 t = 4) (h : Q (some (aI (if I t 1 = 5 then 6 else I t 2))) I L R K) : E sc 224 0 [some (aR (some t))] [] I L R K Q := by
  have key : ∀ z : Int, z = (if I t 1 = 5 then 6 else I t 2) → Q (some (aI z)) I L R K := fun z e => e ▸ h
  exact w_224_0 hL ⟨hr, fun q1 => ⟨hr, key _ (by rw [if_neg q1])⟩, fun q1 => key _ (by rw [if_pos q1])⟩
