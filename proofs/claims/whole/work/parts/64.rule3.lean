/-! the reference's isInForce -/
def fellM (I : IH) (r k : Int) : Nat → Int := fun (j : Nat) => (if I 92 (20 * r.toNat + j) ≤ k then 1 else 0 : Int)
abbrev inFoM (I : IH) (r a k : Int) : Prop := I 87 r.toNat ≤ k ∧ I 86 r.toNat ≤ a ∧ ¬(I 88 r.toNat ≠ -1 ∧ I 89 r.toNat ≤ k ∧ I 88 r.toNat ≤ a) ∧ (I 83 r.toNat ≠ 2 ∨ 2 ≤ I 90 r.toNat - sumTo (fellM I r k) (I 91 r.toNat).toNat)
theorem l_91_75 {sc : Nat × (Nat → Int)} {I : IH} {L : LH} {R : RH} {K : KH} {Q : AQ} {a0 a1 a2 : Int} (hL : Lay R K) (pr : 0 ≤ a0 ∧ a0 < 80) (p0 : 0 ≤ I 91 a0.toNat ∧ I 91 a0.toNat ≤ 20) (p1 : 0 ≤ I 90 a0.toNat ∧ I 90 a0.toNat ≤ 20) (h : Q (some (aI (b2i (2 ≤ I 90 a0.toNat - sumTo (fellM I a0 a2) (I 91 a0.toNat).toNat)))) I L R K) : E sc 91 75 [some (aR (some 77)), some (aI a0), some (aI a1), some (aI a2), some (aI (I 90 a0.toNat)), some (aI 0)] [] I L R K Q := by
  have hB : ∀ j, j < (I 91 a0.toNat).toNat → fellM I a0 a2 j ≤ 1 ∧ -1 ≤ fellM I a0 a2 j := by
    intro j _
    unfold fellM
    split <;> omega
  have hb := sumTo_le (f := fellM I a0 a2) (B := 1) (m := (I 91 a0.toNat).toNat) (by omega) hB
  have key : (fun (i : Nat) => ∀ (s k : Int), s = I 90 a0.toNat - sumTo (fellM I a0 a2) i → k = (i : Int) → E sc 91 75 [some (aR (some 77)), some (aI a0), some (aI a1), some (aI a2), some (aI s), some (aI k)] [] I L R K Q) 0 := by
    refine loop_up (C := fun (i : Nat) => ∀ (s k : Int), s = I 90 a0.toNat - sumTo (fellM I a0 a2) i → k = (i : Int) → E sc 91 75 [some (aR (some 77)), some (aI a0), some (aI a1), some (aI a2), some (aI s), some (aI k)] [] I L R K Q) (I 91 a0.toNat).toNat ?_ ?_
    · intro i hi hc s k hs hk
      subst hk
      have b1 := hb i (by omega)
      have e : fellM I a0 a2 i = (if I 92 (20 * a0.toNat + i) ≤ a2 then 1 else 0 : Int) := rfl
      have ix : (20 * a0 + (i : Int)).toNat = 20 * a0.toNat + i := by omega
      refine w_91_75 nl_i hL ⟨pr, fun q1 => by omega, fun q1 => ⟨by omega, by omega, by omega, fun q2 => ⟨by omega, by omega, hc _ _ ?_ (by omega)⟩, fun q2 => ⟨by omega, by omega, hc _ _ ?_ (by omega)⟩⟩⟩
      · rw [ix] at q2
        rw [sumTo_succ, e, if_neg (by omega)]; omega
      · rw [ix] at q2
        rw [sumTo_succ, e, if_pos (by omega)]; omega
    · intro s k hs hk
      have key2 : ∀ z : Int, z = b2i (2 ≤ I 90 a0.toNat - sumTo (fellM I a0 a2) (I 91 a0.toNat).toNat) → Q (some (aI z)) I L R K := fun z e => e ▸ h
      exact w_91_75 nl_i hL ⟨pr, fun _ => ⟨fun q2 => key2 _ (by rw [b2i, if_neg (by omega)]), fun q2 => key2 _ (by rw [b2i, if_pos (by omega)])⟩, fun q1 => by omega⟩
  exact key _ _ (by show _ = I 90 a0.toNat - 0; omega) rfl
theorem v_91 {sc : Nat × (Nat → Int)} {I : IH} {L : LH} {R : RH} {K : KH} {Q : AQ} {a0 a1 a2 : Int} (hL : Lay R K) (pr : 0 ≤ a0 ∧ a0 < 80) (p0 : 0 ≤ I 91 a0.toNat ∧ I 91 a0.toNat ≤ 20) (p1 : 0 ≤ I 90 a0.toNat ∧ I 90 a0.toNat ≤ 20) (h : Q (some (aI (b2i (inFoM I a0 a1 a2)))) I L R K) : E sc 91 0 [some (aR (some 77)), some (aI a0), some (aI a1), some (aI a2), none, none] [] I L R K Q := by
  have key : ∀ z : Int, z = b2i (inFoM I a0 a1 a2) → Q (some (aI z)) I L R K := fun z e => e ▸ h
  exact w_91_0 hL ⟨pr, ⟨fun q1 => (key _ (by unfold b2i inFoM; split <;> omega)), fun q1 => ⟨pr, ⟨fun q2 => (key _ (by unfold b2i inFoM; split <;> omega)), fun q2 => ⟨pr, ⟨fun q3 => ⟨pr, ⟨fun q4 => ⟨pr, (l_91_75 hL pr p0 p1 (key _ (by unfold b2i inFoM; (repeat' split) <;> omega)))⟩, fun q4 => (key _ (by unfold b2i inFoM; split <;> omega))⟩⟩, fun q3 => ⟨pr, ⟨fun q5 => ⟨pr, ⟨fun q6 => ⟨pr, (l_91_75 hL pr p0 p1 (key _ (by unfold b2i inFoM; (repeat' split) <;> omega)))⟩, fun q6 => (key _ (by unfold b2i inFoM; split <;> omega))⟩⟩, fun q5 => ⟨pr, ⟨fun q7 => ⟨pr, ⟨fun q8 => ⟨pr, (l_91_75 hL pr p0 p1 (key _ (by unfold b2i inFoM; (repeat' split) <;> omega)))⟩, fun q8 => (key _ (by unfold b2i inFoM; split <;> omega))⟩⟩, fun q7 => (key _ (by unfold b2i inFoM; split <;> omega))⟩⟩⟩⟩⟩⟩⟩⟩⟩⟩
