/-! SortSet: has, put, clear -/
theorem v_262 {sc : Nat × (Nat → Int)} {I : IH} {L : LH} {R : RH} {K : KH} {Q : AQ} {a0 : Int} {t : Nat} (hL : Lay R K) (hs : SetAt R K t) (h : Q (some (aI (b2i (0 ≤ a0 ∧ a0 < 1536 ∧ inSet L (rf R t 0) a0.toNat)))) I L R K) : E sc 262 0 [some (aR (some t)), some (aI a0)] [] I L R K Q := by
  have key : ∀ z : Int, z = b2i (0 ≤ a0 ∧ a0 < 1536 ∧ inSet L (rf R t 0) a0.toNat) → Q (some (aI z)) I L R K := fun z e => e ▸ h
  refine w_262_0 hL ⟨fun q1 => key _ (by rw [b2i, if_neg (by omega)]), fun q1 => ⟨fun q2 => key _ (by rw [b2i, if_neg (by omega)]), fun q2 => ⟨⟨hs.1, hs.2.1⟩, ⟨hs.2.2.1, by have := ishr6 ⟨q1, q2⟩; rw [hs.2.2.2]; omega⟩, fun q3 => key _ ?_, fun q3 => key _ ?_⟩⟩⟩
  · rw [(ishr6 ⟨q1, q2⟩).1, wbit0 ⟨q1, q2⟩] at q3
    rw [b2i, if_neg]
    intro c
    have c3 : (L (rf R t 0) (a0.toNat / 64)).toBitVec.getLsbD (a0.toNat % 64) = true := c.2.2
    rw [q3] at c3
    exact Bool.false_ne_true c3
  · rw [(ishr6 ⟨q1, q2⟩).1, Ne, wbit0 ⟨q1, q2⟩] at q3
    rw [b2i, if_pos]
    exact ⟨q1, q2, Eq.mp (Bool.not_eq_false _) q3⟩
theorem v_260 {sc : Nat × (Nat → Int)} {I : IH} {L : LH} {R : RH} {K : KH} {Q : AQ} {t : Nat} (hL : Lay R K) (hs : SetAt R K t) (h : Q none I (fillF L (rf R t 0) 24 (Int64.ofNat ((0 : Fin 2) : Nat))) R K) : E sc 260 0 [some (aR (some t))] [] I L R K Q := by
  refine w_260_0 hL ⟨⟨hs.1, hs.2.1⟩, ?_⟩
  refine e_callS mb_260 dX7_clear_5 mf_260 mf_320 cs_28687 rfl rfl rfl rfl (v_320 hL hs.2.2.1 (by rw [hs.2.2.2]; decide) ?_)
  rw [hs.2.2.2]
  exact w_260_8 nl_r hL h
