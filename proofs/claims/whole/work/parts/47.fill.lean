/-! Arrays.fill -/
def fillF {α : Type} (f : Nat → Nat → α) (a n : Nat) (v : α) : Nat → Nat → α := fun b j => if b = a ∧ j < n then v else f b j
theorem fillF_zero {α : Type} (f : Nat → Nat → α) (a : Nat) (v : α) : fillF f a 0 v = f := by
  funext b j
  unfold fillF
  rw [if_neg (by omega)]
theorem fillF_succ {α : Type} (f : Nat → Nat → α) (a n : Nat) (v : α) : setF (fillF f a n v) a n v = fillF f a (n + 1) v := by
  funext b j
  unfold setF fillF
  by_cases h1 : b = a ∧ j = n
  · rw [if_pos h1, if_pos ⟨h1.1, by omega⟩]
  · rw [if_neg h1]
    by_cases h2 : b = a ∧ j < n
    · rw [if_pos h2, if_pos ⟨h2.1, by omega⟩]
    · rw [if_neg h2, if_neg (by omega)]
theorem v_319 {sc : Nat × (Nat → Int)} {I : IH} {L : LH} {R : RH} {K : KH} {Q : AQ} {a1 : Int} {c0 : Nat} (hL : Lay R K) (hk : K.1 c0 = 100) (hn : K.2.1 c0 ≤ 65536) (h : Q none (fillF I c0 (K.2.1 c0) a1) L R K) : E sc 319 0 [some (aR (some c0)), some (aI a1), none, none] [] I L R K Q := by
  refine w_319_0 hL ⟨by omega, ?_⟩
  have key : (fun (i : Nat) => ∀ k : Int, k = (i : Int) → E sc 319 5 [some (aR (some c0)), some (aI a1), some (aI k), some (aI ((K.2.1 c0 : Nat) : Int))] [] (fillF I c0 i a1) L R K Q) 0 := by
    refine loop_up (C := fun (i : Nat) => ∀ k : Int, k = (i : Int) → E sc 319 5 [some (aR (some c0)), some (aI a1), some (aI k), some (aI ((K.2.1 c0 : Nat) : Int))] [] (fillF I c0 i a1) L R K Q) (K.2.1 c0) ?_ ?_
    · intro i hi hc k hk2
      subst hk2
      refine w_319_5 hL ⟨fun q1 => by omega, fun q1 => ⟨⟨hk, by omega⟩, by omega, ?_⟩⟩
      rw [Int.toNat_natCast, fillF_succ]
      exact hc _ (by omega)
    · intro k hk2
      exact w_319_5 hL ⟨fun _ => h, fun q1 => by omega⟩
  have h2 := key 0 rfl
  rw [fillF_zero] at h2
  exact h2
theorem v_320 {sc : Nat × (Nat → Int)} {I : IH} {L : LH} {R : RH} {K : KH} {Q : AQ} {b1 : Int64} {c0 : Nat} (hL : Lay R K) (hk : K.1 c0 = 102) (hn : K.2.1 c0 ≤ 65536) (h : Q none I (fillF L c0 (K.2.1 c0) b1) R K) : E sc 320 0 [some (aR (some c0)), some (aL b1), none, none, none] [] I L R K Q := by
  refine w_320_0 hL ⟨by omega, ?_⟩
  have key : (fun (i : Nat) => ∀ k : Int, k = (i : Int) → E sc 320 6 [some (aR (some c0)), some (aL b1), none, some (aI k), some (aI ((K.2.1 c0 : Nat) : Int))] [] I (fillF L c0 i b1) R K Q) 0 := by
    refine loop_up (C := fun (i : Nat) => ∀ k : Int, k = (i : Int) → E sc 320 6 [some (aR (some c0)), some (aL b1), none, some (aI k), some (aI ((K.2.1 c0 : Nat) : Int))] [] I (fillF L c0 i b1) R K Q) (K.2.1 c0) ?_ ?_
    · intro i hi hc k hk2
      subst hk2
      refine w_320_6 hL ⟨fun q1 => by omega, fun q1 => ⟨⟨hk, by omega⟩, by omega, ?_⟩⟩
      rw [Int.toNat_natCast, fillF_succ]
      exact hc _ (by omega)
    · intro k hk2
      exact w_320_6 hL ⟨fun _ => h, fun q1 => by omega⟩
  have h2 := key 0 rfl
  rw [fillF_zero] at h2
  exact h2
