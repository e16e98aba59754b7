/-! values of methods that sum up -/
theorem v_192 {sc : Nat × (Nat → Int)} {I : IH} {L : LH} {R : RH} {K : KH} {Q : AQ} (hL : Lay R K) (p0 : 0 ≤ I 14 8 ∧ I 14 8 ≤ 8) (p1 : ∀ j, j < 8 → 0 ≤ I 18 j ∧ I 18 j ≤ 100000000) (h : Q (some (aI (sumTo (fun (j : Nat) => (I 18 j : Int)) (I 14 8).toNat))) I L R K) : E sc 192 0 [some (aR (some 14)), none, none] [] I L R K Q := by
  have hB : ∀ j, j < (I 14 8).toNat → (fun (j : Nat) => (I 18 j : Int)) j ≤ 100000000 ∧ -100000000 ≤ (fun (j : Nat) => (I 18 j : Int)) j := by
    intro j hj
    show (I 18 j : Int) ≤ 100000000 ∧ -100000000 ≤ (I 18 j : Int)
    have := p1 j (by omega)
    omega
  have hb := sumTo_le (f := (fun (j : Nat) => (I 18 j : Int))) (B := 100000000) (m := (I 14 8).toNat) (by omega) hB
  have key : (fun (i : Nat) => ∀ (s k : Int), s = sumTo (fun (j : Nat) => (I 18 j : Int)) i → k = (i : Int) → E sc 192 4 [some (aR (some 14)), some (aI s), some (aI k)] [] I L R K Q) 0 := by
    refine loop_up (C := fun (i : Nat) => ∀ (s k : Int), s = sumTo (fun (j : Nat) => (I 18 j : Int)) i → k = (i : Int) → E sc 192 4 [some (aR (some 14)), some (aI s), some (aI k)] [] I L R K Q) (I 14 8).toNat ?_ ?_
    · intro i hi hc s k hs hk
      subst hk
      have ek : (i : Int).toNat = i := Int.toNat_natCast i
      have b0 := hB i hi
      have b1 := hb i (by omega)
      have b2 := hb (i + 1) (by omega)
      rw [sumTo_succ] at b2
      simp only [] at b0 b2
      exact w_192_4 hL ⟨fun q1 => (by omega), fun q1 => ⟨(by (try simp only [ek] at *); first | omega | assumption | (refine ⟨?_, ?_⟩ <;> first | omega | assumption) | (split at b0 <;> omega) | (split at b0 <;> split at b2 <;> omega)), ⟨(by (try simp only [ek] at *); first | omega | assumption | (refine ⟨?_, ?_⟩ <;> first | omega | assumption) | (split at b0 <;> omega) | (split at b0 <;> split at b2 <;> omega)), ⟨(by (try simp only [ek] at *); first | omega | assumption | (refine ⟨?_, ?_⟩ <;> first | omega | assumption) | (split at b0 <;> omega) | (split at b0 <;> split at b2 <;> omega)), (hc _ _ (by (try simp only [ek] at *); first | (rw [sumTo_succ, ← hs]; done) | (rw [sumTo_succ, ← hs]; (try simp only []); (repeat' split) <;> omega)) (by omega))⟩⟩⟩⟩
    · intro s k hs hk
      exact w_192_4 hL ⟨fun q1 => (by rw [hs]; exact h), fun q1 => ⟨(by omega), ⟨(by omega), ⟨(by omega), (by omega)⟩⟩⟩⟩
  exact w_192_0 hL ((key _ _ rfl rfl))
theorem v_190 {sc : Nat × (Nat → Int)} {I : IH} {L : LH} {R : RH} {K : KH} {Q : AQ} {a0 : Int} (hL : Lay R K) (p0 : 0 ≤ I 14 8 ∧ I 14 8 ≤ 8) (p1 : ∀ j, j < 8 → 0 ≤ I 16 j ∧ I 16 j ≤ 99) (h : Q (some (aI (sumTo (fun (j : Nat) => (if I 15 j = a0 then I 16 j else 0 : Int)) (I 14 8).toNat))) I L R K) : E sc 190 0 [some (aR (some 14)), some (aI a0), none, none] [] I L R K Q := by
  have hB : ∀ j, j < (I 14 8).toNat → (fun (j : Nat) => (if I 15 j = a0 then I 16 j else 0 : Int)) j ≤ 99 ∧ -99 ≤ (fun (j : Nat) => (if I 15 j = a0 then I 16 j else 0 : Int)) j := by
    intro j hj
    show (if I 15 j = a0 then I 16 j else 0 : Int) ≤ 99 ∧ -99 ≤ (if I 15 j = a0 then I 16 j else 0 : Int)
    have := p1 j (by omega)
    (repeat' split) <;> omega
  have hb := sumTo_le (f := (fun (j : Nat) => (if I 15 j = a0 then I 16 j else 0 : Int))) (B := 99) (m := (I 14 8).toNat) (by omega) hB
  have key : (fun (i : Nat) => ∀ (s k : Int), s = sumTo (fun (j : Nat) => (if I 15 j = a0 then I 16 j else 0 : Int)) i → k = (i : Int) → E sc 190 4 [some (aR (some 14)), some (aI a0), some (aI s), some (aI k)] [] I L R K Q) 0 := by
    refine loop_up (C := fun (i : Nat) => ∀ (s k : Int), s = sumTo (fun (j : Nat) => (if I 15 j = a0 then I 16 j else 0 : Int)) i → k = (i : Int) → E sc 190 4 [some (aR (some 14)), some (aI a0), some (aI s), some (aI k)] [] I L R K Q) (I 14 8).toNat ?_ ?_
    · intro i hi hc s k hs hk
      subst hk
      have ek : (i : Int).toNat = i := Int.toNat_natCast i
      have b0 := hB i hi
      have b1 := hb i (by omega)
      have b2 := hb (i + 1) (by omega)
      rw [sumTo_succ] at b2
      simp only [] at b0 b2
      exact w_190_4 hL ⟨fun q1 => (by omega), fun q1 => ⟨(by (try simp only [ek] at *); first | omega | assumption | (refine ⟨?_, ?_⟩ <;> first | omega | assumption) | (split at b0 <;> omega) | (split at b0 <;> split at b2 <;> omega)), ⟨fun q2 => ⟨(by (try simp only [ek] at *); first | omega | assumption | (refine ⟨?_, ?_⟩ <;> first | omega | assumption) | (split at b0 <;> omega) | (split at b0 <;> split at b2 <;> omega)), (hc _ _ (by (try simp only [ek] at *); first | (rw [sumTo_succ, ← hs]; done) | (rw [sumTo_succ, ← hs]; (try simp only []); (repeat' split) <;> omega)) (by omega))⟩, fun q2 => ⟨(by (try simp only [ek] at *); first | omega | assumption | (refine ⟨?_, ?_⟩ <;> first | omega | assumption) | (split at b0 <;> omega) | (split at b0 <;> split at b2 <;> omega)), ⟨(by (try simp only [ek] at *); first | omega | assumption | (refine ⟨?_, ?_⟩ <;> first | omega | assumption) | (split at b0 <;> omega) | (split at b0 <;> split at b2 <;> omega)), ⟨(by (try simp only [ek] at *); first | omega | assumption | (refine ⟨?_, ?_⟩ <;> first | omega | assumption) | (split at b0 <;> omega) | (split at b0 <;> split at b2 <;> omega)), (hc _ _ (by (try simp only [ek] at *); first | (rw [sumTo_succ, ← hs]; done) | (rw [sumTo_succ, ← hs]; (try simp only []); (repeat' split) <;> omega)) (by omega))⟩⟩⟩⟩⟩⟩
    · intro s k hs hk
      exact w_190_4 hL ⟨fun q1 => (by rw [hs]; exact h), fun q1 => ⟨(by omega), ⟨fun q2 => ⟨(by omega), (by omega)⟩, fun q2 => ⟨(by omega), ⟨(by omega), ⟨(by omega), (by omega)⟩⟩⟩⟩⟩⟩
  exact w_190_0 hL ((key _ _ rfl rfl))
theorem v_210 {sc : Nat × (Nat → Int)} {I : IH} {L : LH} {R : RH} {K : KH} {Q : AQ} {a0 : Int} (hL : Lay R K) (p0 : 0 ≤ I 27 9 ∧ I 27 9 ≤ 30) (h : Q (some (aI (sumTo (fun (j : Nat) => (if I 34 j = a0 then 1 else 0 : Int)) (I 27 9).toNat))) I L R K) : E sc 210 0 [some (aR (some 27)), some (aI a0), none, none] [] I L R K Q := by
  have hB : ∀ j, j < (I 27 9).toNat → (fun (j : Nat) => (if I 34 j = a0 then 1 else 0 : Int)) j ≤ 1 ∧ -1 ≤ (fun (j : Nat) => (if I 34 j = a0 then 1 else 0 : Int)) j := by
    intro j hj
    show (if I 34 j = a0 then 1 else 0 : Int) ≤ 1 ∧ -1 ≤ (if I 34 j = a0 then 1 else 0 : Int)
    (repeat' split) <;> omega
  have hb := sumTo_le (f := (fun (j : Nat) => (if I 34 j = a0 then 1 else 0 : Int))) (B := 1) (m := (I 27 9).toNat) (by omega) hB
  have key : (fun (i : Nat) => ∀ (s k : Int), s = sumTo (fun (j : Nat) => (if I 34 j = a0 then 1 else 0 : Int)) i → k = (i : Int) → E sc 210 4 [some (aR (some 27)), some (aI a0), some (aI s), some (aI k)] [] I L R K Q) 0 := by
    refine loop_up (C := fun (i : Nat) => ∀ (s k : Int), s = sumTo (fun (j : Nat) => (if I 34 j = a0 then 1 else 0 : Int)) i → k = (i : Int) → E sc 210 4 [some (aR (some 27)), some (aI a0), some (aI s), some (aI k)] [] I L R K Q) (I 27 9).toNat ?_ ?_
    · intro i hi hc s k hs hk
      subst hk
      have ek : (i : Int).toNat = i := Int.toNat_natCast i
      have b0 := hB i hi
      have b1 := hb i (by omega)
      have b2 := hb (i + 1) (by omega)
      rw [sumTo_succ] at b2
      simp only [] at b0 b2
      exact w_210_4 hL ⟨fun q1 => (by omega), fun q1 => ⟨(by (try simp only [ek] at *); first | omega | assumption | (refine ⟨?_, ?_⟩ <;> first | omega | assumption) | (split at b0 <;> omega) | (split at b0 <;> split at b2 <;> omega)), ⟨fun q2 => ⟨(by (try simp only [ek] at *); first | omega | assumption | (refine ⟨?_, ?_⟩ <;> first | omega | assumption) | (split at b0 <;> omega) | (split at b0 <;> split at b2 <;> omega)), (hc _ _ (by (try simp only [ek] at *); first | (rw [sumTo_succ, ← hs]; done) | (rw [sumTo_succ, ← hs]; (try simp only []); (repeat' split) <;> omega)) (by omega))⟩, fun q2 => ⟨(by (try simp only [ek] at *); first | omega | assumption | (refine ⟨?_, ?_⟩ <;> first | omega | assumption) | (split at b0 <;> omega) | (split at b0 <;> split at b2 <;> omega)), ⟨(by (try simp only [ek] at *); first | omega | assumption | (refine ⟨?_, ?_⟩ <;> first | omega | assumption) | (split at b0 <;> omega) | (split at b0 <;> split at b2 <;> omega)), (hc _ _ (by (try simp only [ek] at *); first | (rw [sumTo_succ, ← hs]; done) | (rw [sumTo_succ, ← hs]; (try simp only []); (repeat' split) <;> omega)) (by omega))⟩⟩⟩⟩⟩
    · intro s k hs hk
      exact w_210_4 hL ⟨fun q1 => (by rw [hs]; exact h), fun q1 => ⟨(by omega), ⟨fun q2 => ⟨(by omega), (by omega)⟩, fun q2 => ⟨(by omega), ⟨(by omega), (by omega)⟩⟩⟩⟩⟩
  exact w_210_0 hL ((key _ _ rfl rfl))
theorem v_211 {sc : Nat × (Nat → Int)} {I : IH} {L : LH} {R : RH} {K : KH} {Q : AQ} (hL : Lay R K) (p0 : 0 ≤ I 27 9 ∧ I 27 9 ≤ 30) (p1 : ∀ j, j < 30 → 0 ≤ I 33 j ∧ I 33 j ≤ 10000000) (h : Q (some (aI (sumTo (fun (j : Nat) => (I 33 j : Int)) (I 27 9).toNat))) I L R K) : E sc 211 0 [some (aR (some 27)), none, none] [] I L R K Q := by
  have hB : ∀ j, j < (I 27 9).toNat → (fun (j : Nat) => (I 33 j : Int)) j ≤ 10000000 ∧ -10000000 ≤ (fun (j : Nat) => (I 33 j : Int)) j := by
    intro j hj
    show (I 33 j : Int) ≤ 10000000 ∧ -10000000 ≤ (I 33 j : Int)
    have := p1 j (by omega)
    omega
  have hb := sumTo_le (f := (fun (j : Nat) => (I 33 j : Int))) (B := 10000000) (m := (I 27 9).toNat) (by omega) hB
  have key : (fun (i : Nat) => ∀ (s k : Int), s = sumTo (fun (j : Nat) => (I 33 j : Int)) i → k = (i : Int) → E sc 211 4 [some (aR (some 27)), some (aI s), some (aI k)] [] I L R K Q) 0 := by
    refine loop_up (C := fun (i : Nat) => ∀ (s k : Int), s = sumTo (fun (j : Nat) => (I 33 j : Int)) i → k = (i : Int) → E sc 211 4 [some (aR (some 27)), some (aI s), some (aI k)] [] I L R K Q) (I 27 9).toNat ?_ ?_
    · intro i hi hc s k hs hk
      subst hk
      have ek : (i : Int).toNat = i := Int.toNat_natCast i
      have b0 := hB i hi
      have b1 := hb i (by omega)
      have b2 := hb (i + 1) (by omega)
      rw [sumTo_succ] at b2
      simp only [] at b0 b2
      exact w_211_4 hL ⟨fun q1 => (by omega), fun q1 => ⟨(by (try simp only [ek] at *); first | omega | assumption | (refine ⟨?_, ?_⟩ <;> first | omega | assumption) | (split at b0 <;> omega) | (split at b0 <;> split at b2 <;> omega)), ⟨(by (try simp only [ek] at *); first | omega | assumption | (refine ⟨?_, ?_⟩ <;> first | omega | assumption) | (split at b0 <;> omega) | (split at b0 <;> split at b2 <;> omega)), ⟨(by (try simp only [ek] at *); first | omega | assumption | (refine ⟨?_, ?_⟩ <;> first | omega | assumption) | (split at b0 <;> omega) | (split at b0 <;> split at b2 <;> omega)), (hc _ _ (by (try simp only [ek] at *); first | (rw [sumTo_succ, ← hs]; done) | (rw [sumTo_succ, ← hs]; (try simp only []); (repeat' split) <;> omega)) (by omega))⟩⟩⟩⟩
    · intro s k hs hk
      exact w_211_4 hL ⟨fun q1 => (by rw [hs]; exact h), fun q1 => ⟨(by omega), ⟨(by omega), ⟨(by omega), (by omega)⟩⟩⟩⟩
  exact w_211_0 hL ((key _ _ rfl rfl))
theorem v_212 {sc : Nat × (Nat → Int)} {I : IH} {L : LH} {R : RH} {K : KH} {Q : AQ} {a0 a1 : Int} (hL : Lay R K) (p0 : 0 ≤ I 27 9 ∧ I 27 9 ≤ 30) (h : Q (some (aI (sumTo (fun (j : Nat) => (if I 29 j = a0 ∧ I 34 j = 0 ∧ (j : Int) ≠ a1 then 1 else 0 : Int)) (I 27 9).toNat))) I L R K) : E sc 212 0 [some (aR (some 27)), some (aI a0), some (aI a1), none, none] [] I L R K Q := by
  have hB : ∀ j, j < (I 27 9).toNat → (fun (j : Nat) => (if I 29 j = a0 ∧ I 34 j = 0 ∧ (j : Int) ≠ a1 then 1 else 0 : Int)) j ≤ 1 ∧ -1 ≤ (fun (j : Nat) => (if I 29 j = a0 ∧ I 34 j = 0 ∧ (j : Int) ≠ a1 then 1 else 0 : Int)) j := by
    intro j hj
    show (if I 29 j = a0 ∧ I 34 j = 0 ∧ (j : Int) ≠ a1 then 1 else 0 : Int) ≤ 1 ∧ -1 ≤ (if I 29 j = a0 ∧ I 34 j = 0 ∧ (j : Int) ≠ a1 then 1 else 0 : Int)
    (repeat' split) <;> omega
  have hb := sumTo_le (f := (fun (j : Nat) => (if I 29 j = a0 ∧ I 34 j = 0 ∧ (j : Int) ≠ a1 then 1 else 0 : Int))) (B := 1) (m := (I 27 9).toNat) (by omega) hB
  have key : (fun (i : Nat) => ∀ (s k : Int), s = sumTo (fun (j : Nat) => (if I 29 j = a0 ∧ I 34 j = 0 ∧ (j : Int) ≠ a1 then 1 else 0 : Int)) i → k = (i : Int) → E sc 212 5 [some (aR (some 27)), some (aI a0), some (aI a1), some (aI s), some (aI k)] [] I L R K Q) 0 := by
    refine loop_up (C := fun (i : Nat) => ∀ (s k : Int), s = sumTo (fun (j : Nat) => (if I 29 j = a0 ∧ I 34 j = 0 ∧ (j : Int) ≠ a1 then 1 else 0 : Int)) i → k = (i : Int) → E sc 212 5 [some (aR (some 27)), some (aI a0), some (aI a1), some (aI s), some (aI k)] [] I L R K Q) (I 27 9).toNat ?_ ?_
    · intro i hi hc s k hs hk
      subst hk
      have ek : (i : Int).toNat = i := Int.toNat_natCast i
      have b0 := hB i hi
      have b1 := hb i (by omega)
      have b2 := hb (i + 1) (by omega)
      rw [sumTo_succ] at b2
      simp only [] at b0 b2
      exact w_212_5 hL ⟨fun q1 => (by omega), fun q1 => ⟨(by (try simp only [ek] at *); first | omega | assumption | (refine ⟨?_, ?_⟩ <;> first | omega | assumption) | (split at b0 <;> omega) | (split at b0 <;> split at b2 <;> omega)), ⟨fun q2 => ⟨(by (try simp only [ek] at *); first | omega | assumption | (refine ⟨?_, ?_⟩ <;> first | omega | assumption) | (split at b0 <;> omega) | (split at b0 <;> split at b2 <;> omega)), ⟨(by (try simp only [ek] at *); first | omega | assumption | (refine ⟨?_, ?_⟩ <;> first | omega | assumption) | (split at b0 <;> omega) | (split at b0 <;> split at b2 <;> omega)), (hc _ _ (by (try simp only [ek] at *); first | (rw [sumTo_succ, ← hs]; done) | (rw [sumTo_succ, ← hs]; (try simp only []); (repeat' split) <;> omega)) (by omega))⟩⟩, fun q2 => ⟨(by (try simp only [ek] at *); first | omega | assumption | (refine ⟨?_, ?_⟩ <;> first | omega | assumption) | (split at b0 <;> omega) | (split at b0 <;> split at b2 <;> omega)), (hc _ _ (by (try simp only [ek] at *); first | (rw [sumTo_succ, ← hs]; done) | (rw [sumTo_succ, ← hs]; (try simp only []); (repeat' split) <;> omega)) (by omega))⟩⟩⟩⟩
    · intro s k hs hk
      exact w_212_5 hL ⟨fun q1 => (by rw [hs]; exact h), fun q1 => ⟨(by omega), ⟨fun q2 => ⟨(by omega), ⟨(by omega), (by omega)⟩⟩, fun q2 => ⟨(by omega), (by omega)⟩⟩⟩⟩
  exact w_212_0 hL ((key _ _ rfl rfl))
theorem v_128 {sc : Nat × (Nat → Int)} {I : IH} {L : LH} {R : RH} {K : KH} {Q : AQ} {a0 : Int} (hL : Lay R K) (p0 : 0 ≤ I 77 31 ∧ I 77 31 ≤ 30) (h : Q (some (aI (sumTo (fun (j : Nat) => (if I 103 j = a0 ∧ I 108 j = 0 then 1 else 0 : Int)) (I 77 31).toNat))) I L R K) : E sc 128 0 [some (aR (some 77)), some (aI a0), none, none] [] I L R K Q := by
  have hB : ∀ j, j < (I 77 31).toNat → (fun (j : Nat) => (if I 103 j = a0 ∧ I 108 j = 0 then 1 else 0 : Int)) j ≤ 1 ∧ -1 ≤ (fun (j : Nat) => (if I 103 j = a0 ∧ I 108 j = 0 then 1 else 0 : Int)) j := by
    intro j hj
    show (if I 103 j = a0 ∧ I 108 j = 0 then 1 else 0 : Int) ≤ 1 ∧ -1 ≤ (if I 103 j = a0 ∧ I 108 j = 0 then 1 else 0 : Int)
    (repeat' split) <;> omega
  have hb := sumTo_le (f := (fun (j : Nat) => (if I 103 j = a0 ∧ I 108 j = 0 then 1 else 0 : Int))) (B := 1) (m := (I 77 31).toNat) (by omega) hB
  have key : (fun (i : Nat) => ∀ (s k : Int), s = sumTo (fun (j : Nat) => (if I 103 j = a0 ∧ I 108 j = 0 then 1 else 0 : Int)) i → k = (i : Int) → E sc 128 4 [some (aR (some 77)), some (aI a0), some (aI s), some (aI k)] [] I L R K Q) 0 := by
    refine loop_up (C := fun (i : Nat) => ∀ (s k : Int), s = sumTo (fun (j : Nat) => (if I 103 j = a0 ∧ I 108 j = 0 then 1 else 0 : Int)) i → k = (i : Int) → E sc 128 4 [some (aR (some 77)), some (aI a0), some (aI s), some (aI k)] [] I L R K Q) (I 77 31).toNat ?_ ?_
    · intro i hi hc s k hs hk
      subst hk
      have ek : (i : Int).toNat = i := Int.toNat_natCast i
      have b0 := hB i hi
      have b1 := hb i (by omega)
      have b2 := hb (i + 1) (by omega)
      rw [sumTo_succ] at b2
      simp only [] at b0 b2
      exact w_128_4 hL ⟨fun q1 => (by omega), fun q1 => ⟨(by (try simp only [ek] at *); first | omega | assumption | (refine ⟨?_, ?_⟩ <;> first | omega | assumption) | (split at b0 <;> omega) | (split at b0 <;> split at b2 <;> omega)), ⟨fun q2 => ⟨(by (try simp only [ek] at *); first | omega | assumption | (refine ⟨?_, ?_⟩ <;> first | omega | assumption) | (split at b0 <;> omega) | (split at b0 <;> split at b2 <;> omega)), ⟨(by (try simp only [ek] at *); first | omega | assumption | (refine ⟨?_, ?_⟩ <;> first | omega | assumption) | (split at b0 <;> omega) | (split at b0 <;> split at b2 <;> omega)), (hc _ _ (by (try simp only [ek] at *); first | (rw [sumTo_succ, ← hs]; done) | (rw [sumTo_succ, ← hs]; (try simp only []); (repeat' split) <;> omega)) (by omega))⟩⟩, fun q2 => ⟨(by (try simp only [ek] at *); first | omega | assumption | (refine ⟨?_, ?_⟩ <;> first | omega | assumption) | (split at b0 <;> omega) | (split at b0 <;> split at b2 <;> omega)), ⟨(by (try simp only [ek] at *); first | omega | assumption | (refine ⟨?_, ?_⟩ <;> first | omega | assumption) | (split at b0 <;> omega) | (split at b0 <;> split at b2 <;> omega)), (hc _ _ (by (try simp only [ek] at *); first | (rw [sumTo_succ, ← hs]; done) | (rw [sumTo_succ, ← hs]; (try simp only []); (repeat' split) <;> omega)) (by omega))⟩⟩⟩⟩⟩
    · intro s k hs hk
      exact w_128_4 hL ⟨fun q1 => (by rw [hs]; exact h), fun q1 => ⟨(by omega), ⟨fun q2 => ⟨(by omega), ⟨(by omega), (by omega)⟩⟩, fun q2 => ⟨(by omega), ⟨(by omega), (by omega)⟩⟩⟩⟩⟩
  exact w_128_0 hL ((key _ _ rfl rfl))
theorem v_300 {sc : Nat × (Nat → Int)} {I : IH} {L : LH} {R : RH} {K : KH} {Q : AQ} (hL : Lay R K) (p0 : 0 ≤ (5 : Int) ∧ (5 : Int) ≤ 5) (p1 : ∀ j, j < 5 → 0 ≤ I 39 j ∧ I 39 j ≤ 3) (h : Q (some (aI (sumTo (fun (j : Nat) => (I 39 j : Int)) ((5 : Int)).toNat))) I L R K) : E sc 300 0 [some (aR (some 36)), none, none] [] I L R K Q := by
  have hB : ∀ j, j < ((5 : Int)).toNat → (fun (j : Nat) => (I 39 j : Int)) j ≤ 3 ∧ -3 ≤ (fun (j : Nat) => (I 39 j : Int)) j := by
    intro j hj
    show (I 39 j : Int) ≤ 3 ∧ -3 ≤ (I 39 j : Int)
    have := p1 j (by omega)
    omega
  have hb := sumTo_le (f := (fun (j : Nat) => (I 39 j : Int))) (B := 3) (m := ((5 : Int)).toNat) (by omega) hB
  have key : (fun (i : Nat) => ∀ (s k : Int), s = sumTo (fun (j : Nat) => (I 39 j : Int)) i → k = (i : Int) → E sc 300 4 [some (aR (some 36)), some (aI s), some (aI k)] [] I L R K Q) 0 := by
    refine loop_up (C := fun (i : Nat) => ∀ (s k : Int), s = sumTo (fun (j : Nat) => (I 39 j : Int)) i → k = (i : Int) → E sc 300 4 [some (aR (some 36)), some (aI s), some (aI k)] [] I L R K Q) ((5 : Int)).toNat ?_ ?_
    · intro i hi hc s k hs hk
      subst hk
      have ek : (i : Int).toNat = i := Int.toNat_natCast i
      have b0 := hB i hi
      have b1 := hb i (by omega)
      have b2 := hb (i + 1) (by omega)
      rw [sumTo_succ] at b2
      simp only [] at b0 b2
      exact w_300_4 hL ⟨fun q1 => (by omega), fun q1 => ⟨(by (try simp only [ek] at *); first | omega | assumption | (refine ⟨?_, ?_⟩ <;> first | omega | assumption) | (split at b0 <;> omega) | (split at b0 <;> split at b2 <;> omega)), ⟨(by (try simp only [ek] at *); first | omega | assumption | (refine ⟨?_, ?_⟩ <;> first | omega | assumption) | (split at b0 <;> omega) | (split at b0 <;> split at b2 <;> omega)), ⟨(by (try simp only [ek] at *); first | omega | assumption | (refine ⟨?_, ?_⟩ <;> first | omega | assumption) | (split at b0 <;> omega) | (split at b0 <;> split at b2 <;> omega)), (hc _ _ (by (try simp only [ek] at *); first | (rw [sumTo_succ, ← hs]; done) | (rw [sumTo_succ, ← hs]; (try simp only []); (repeat' split) <;> omega)) (by omega))⟩⟩⟩⟩
    · intro s k hs hk
      exact w_300_4 hL ⟨fun q1 => (by rw [hs]; exact h), fun q1 => ⟨(by omega), ⟨(by omega), ⟨(by omega), (by omega)⟩⟩⟩⟩
  exact w_300_0 hL ((key _ _ rfl rfl))
theorem v_276 {sc : Nat × (Nat → Int)} {I : IH} {L : LH} {R : RH} {K : KH} {Q : AQ} {a0 : Int} (hL : Lay R K) (p0 : 0 ≤ I 45 2 ∧ I 45 2 ≤ 7) (p1 : ∀ j, j < 7 → 0 ≤ I 46 j ∧ I 46 j ≤ 99) (h : Q (some (aI (sumTo (fun (j : Nat) => (if iand (ishr a0 (j : Int)) 1 ≠ 0 then I 46 j else 0 : Int)) (I 45 2).toNat))) I L R K) : E sc 276 0 [some (aR (some 45)), some (aI a0), none, none] [] I L R K Q := by
  have hB : ∀ j, j < (I 45 2).toNat → (fun (j : Nat) => (if iand (ishr a0 (j : Int)) 1 ≠ 0 then I 46 j else 0 : Int)) j ≤ 99 ∧ -99 ≤ (fun (j : Nat) => (if iand (ishr a0 (j : Int)) 1 ≠ 0 then I 46 j else 0 : Int)) j := by
    intro j hj
    show (if iand (ishr a0 (j : Int)) 1 ≠ 0 then I 46 j else 0 : Int) ≤ 99 ∧ -99 ≤ (if iand (ishr a0 (j : Int)) 1 ≠ 0 then I 46 j else 0 : Int)
    have := p1 j (by omega)
    (repeat' split) <;> omega
  have hb := sumTo_le (f := (fun (j : Nat) => (if iand (ishr a0 (j : Int)) 1 ≠ 0 then I 46 j else 0 : Int))) (B := 99) (m := (I 45 2).toNat) (by omega) hB
  have key : (fun (i : Nat) => ∀ (s k : Int), s = sumTo (fun (j : Nat) => (if iand (ishr a0 (j : Int)) 1 ≠ 0 then I 46 j else 0 : Int)) i → k = (i : Int) → E sc 276 4 [some (aR (some 45)), some (aI a0), some (aI s), some (aI k)] [] I L R K Q) 0 := by
    refine loop_up (C := fun (i : Nat) => ∀ (s k : Int), s = sumTo (fun (j : Nat) => (if iand (ishr a0 (j : Int)) 1 ≠ 0 then I 46 j else 0 : Int)) i → k = (i : Int) → E sc 276 4 [some (aR (some 45)), some (aI a0), some (aI s), some (aI k)] [] I L R K Q) (I 45 2).toNat ?_ ?_
    · intro i hi hc s k hs hk
      subst hk
      have ek : (i : Int).toNat = i := Int.toNat_natCast i
      have b0 := hB i hi
      have b1 := hb i (by omega)
      have b2 := hb (i + 1) (by omega)
      rw [sumTo_succ] at b2
      simp only [] at b0 b2
      exact w_276_4 hL ⟨fun q1 => (by omega), fun q1 => ⟨fun q2 => ⟨(by (try simp only [ek] at *); first | omega | assumption | (refine ⟨?_, ?_⟩ <;> first | omega | assumption) | (split at b0 <;> omega) | (split at b0 <;> split at b2 <;> omega)), (hc _ _ (by (try simp only [ek] at *); first | (rw [sumTo_succ, ← hs]; done) | (rw [sumTo_succ, ← hs]; (try simp only []); (repeat' split) <;> omega)) (by omega))⟩, fun q2 => ⟨(by (try simp only [ek] at *); first | omega | assumption | (refine ⟨?_, ?_⟩ <;> first | omega | assumption) | (split at b0 <;> omega) | (split at b0 <;> split at b2 <;> omega)), ⟨(by (try simp only [ek] at *); first | omega | assumption | (refine ⟨?_, ?_⟩ <;> first | omega | assumption) | (split at b0 <;> omega) | (split at b0 <;> split at b2 <;> omega)), ⟨(by (try simp only [ek] at *); first | omega | assumption | (refine ⟨?_, ?_⟩ <;> first | omega | assumption) | (split at b0 <;> omega) | (split at b0 <;> split at b2 <;> omega)), (hc _ _ (by (try simp only [ek] at *); first | (rw [sumTo_succ, ← hs]; done) | (rw [sumTo_succ, ← hs]; (try simp only []); (repeat' split) <;> omega)) (by omega))⟩⟩⟩⟩⟩
    · intro s k hs hk
      exact w_276_4 hL ⟨fun q1 => (by rw [hs]; exact h), fun q1 => ⟨fun q2 => ⟨(by omega), (by omega)⟩, fun q2 => ⟨(by omega), ⟨(by omega), ⟨(by omega), (by omega)⟩⟩⟩⟩⟩
  exact w_276_0 hL ((key _ _ rfl rfl))
theorem v_151 {sc : Nat × (Nat → Int)} {I : IH} {L : LH} {R : RH} {K : KH} {Q : AQ} {a0 : Int} (hL : Lay R K) (p0 : 0 ≤ I 77 18 ∧ I 77 18 ≤ 8) (p1 : ∀ j, j < 8 → 0 ≤ I 115 j ∧ I 115 j ≤ 12) (h : Q (some (aI (sumTo (fun (j : Nat) => (if iand (ishr a0 (j : Int)) 1 = 1 then I 115 j else 0 : Int)) (I 77 18).toNat))) I L R K) : E sc 151 0 [some (aR (some 77)), some (aI a0), none, none] [] I L R K Q := by
  have hB : ∀ j, j < (I 77 18).toNat → (fun (j : Nat) => (if iand (ishr a0 (j : Int)) 1 = 1 then I 115 j else 0 : Int)) j ≤ 12 ∧ -12 ≤ (fun (j : Nat) => (if iand (ishr a0 (j : Int)) 1 = 1 then I 115 j else 0 : Int)) j := by
    intro j hj
    show (if iand (ishr a0 (j : Int)) 1 = 1 then I 115 j else 0 : Int) ≤ 12 ∧ -12 ≤ (if iand (ishr a0 (j : Int)) 1 = 1 then I 115 j else 0 : Int)
    have := p1 j (by omega)
    (repeat' split) <;> omega
  have hb := sumTo_le (f := (fun (j : Nat) => (if iand (ishr a0 (j : Int)) 1 = 1 then I 115 j else 0 : Int))) (B := 12) (m := (I 77 18).toNat) (by omega) hB
  have key : (fun (i : Nat) => ∀ (s k : Int), s = sumTo (fun (j : Nat) => (if iand (ishr a0 (j : Int)) 1 = 1 then I 115 j else 0 : Int)) i → k = (i : Int) → E sc 151 4 [some (aR (some 77)), some (aI a0), some (aI s), some (aI k)] [] I L R K Q) 0 := by
    refine loop_up (C := fun (i : Nat) => ∀ (s k : Int), s = sumTo (fun (j : Nat) => (if iand (ishr a0 (j : Int)) 1 = 1 then I 115 j else 0 : Int)) i → k = (i : Int) → E sc 151 4 [some (aR (some 77)), some (aI a0), some (aI s), some (aI k)] [] I L R K Q) (I 77 18).toNat ?_ ?_
    · intro i hi hc s k hs hk
      subst hk
      have ek : (i : Int).toNat = i := Int.toNat_natCast i
      have b0 := hB i hi
      have b1 := hb i (by omega)
      have b2 := hb (i + 1) (by omega)
      rw [sumTo_succ] at b2
      simp only [] at b0 b2
      exact w_151_4 hL ⟨fun q1 => (by omega), fun q1 => ⟨fun q2 => ⟨(by (try simp only [ek] at *); first | omega | assumption | (refine ⟨?_, ?_⟩ <;> first | omega | assumption) | (split at b0 <;> omega) | (split at b0 <;> split at b2 <;> omega)), ⟨(by (try simp only [ek] at *); first | omega | assumption | (refine ⟨?_, ?_⟩ <;> first | omega | assumption) | (split at b0 <;> omega) | (split at b0 <;> split at b2 <;> omega)), (hc _ _ (by (try simp only [ek] at *); first | (rw [sumTo_succ, ← hs]; done) | (rw [sumTo_succ, ← hs]; (try simp only []); (repeat' split) <;> omega)) (by omega))⟩⟩, fun q2 => ⟨(by (try simp only [ek] at *); first | omega | assumption | (refine ⟨?_, ?_⟩ <;> first | omega | assumption) | (split at b0 <;> omega) | (split at b0 <;> split at b2 <;> omega)), ⟨(by (try simp only [ek] at *); first | omega | assumption | (refine ⟨?_, ?_⟩ <;> first | omega | assumption) | (split at b0 <;> omega) | (split at b0 <;> split at b2 <;> omega)), ⟨(by (try simp only [ek] at *); first | omega | assumption | (refine ⟨?_, ?_⟩ <;> first | omega | assumption) | (split at b0 <;> omega) | (split at b0 <;> split at b2 <;> omega)), (hc _ _ (by (try simp only [ek] at *); first | (rw [sumTo_succ, ← hs]; done) | (rw [sumTo_succ, ← hs]; (try simp only []); (repeat' split) <;> omega)) (by omega))⟩⟩⟩⟩⟩
    · intro s k hs hk
      exact w_151_4 hL ⟨fun q1 => (by rw [hs]; exact h), fun q1 => ⟨fun q2 => ⟨(by omega), ⟨(by omega), (by omega)⟩⟩, fun q2 => ⟨(by omega), ⟨(by omega), ⟨(by omega), (by omega)⟩⟩⟩⟩⟩
  exact w_151_0 hL ((key _ _ rfl rfl))
theorem v_110 {sc : Nat × (Nat → Int)} {I : IH} {L : LH} {R : RH} {K : KH} {Q : AQ} {a0 : Int} (hL : Lay R K) (p0 : 0 ≤ (10 : Int) ∧ (10 : Int) ≤ 10) (p1 : ∀ j : Nat, j < 10 → 0 ≤ iand (ishr a0 (j : Int)) 1 ∧ iand (ishr a0 (j : Int)) 1 ≤ 1) (h : Q (some (aI (sumTo (fun (j : Nat) => (iand (ishr a0 (j : Int)) 1 : Int)) ((10 : Int)).toNat))) I L R K) : E sc 110 0 [some (aI a0), none, none] [] I L R K Q := by
  have hB : ∀ j, j < ((10 : Int)).toNat → (fun (j : Nat) => (iand (ishr a0 (j : Int)) 1 : Int)) j ≤ 1 ∧ -1 ≤ (fun (j : Nat) => (iand (ishr a0 (j : Int)) 1 : Int)) j := by
    intro j hj
    show (iand (ishr a0 (j : Int)) 1 : Int) ≤ 1 ∧ -1 ≤ (iand (ishr a0 (j : Int)) 1 : Int)
    have := p1 j (by omega)
    omega
  have hb := sumTo_le (f := (fun (j : Nat) => (iand (ishr a0 (j : Int)) 1 : Int))) (B := 1) (m := ((10 : Int)).toNat) (by omega) hB
  have key : (fun (i : Nat) => ∀ (s k : Int), s = sumTo (fun (j : Nat) => (iand (ishr a0 (j : Int)) 1 : Int)) i → k = (i : Int) → E sc 110 4 [some (aI a0), some (aI s), some (aI k)] [] I L R K Q) 0 := by
    refine loop_up (C := fun (i : Nat) => ∀ (s k : Int), s = sumTo (fun (j : Nat) => (iand (ishr a0 (j : Int)) 1 : Int)) i → k = (i : Int) → E sc 110 4 [some (aI a0), some (aI s), some (aI k)] [] I L R K Q) ((10 : Int)).toNat ?_ ?_
    · intro i hi hc s k hs hk
      subst hk
      have ek : (i : Int).toNat = i := Int.toNat_natCast i
      have b0 := hB i hi
      have b1 := hb i (by omega)
      have b2 := hb (i + 1) (by omega)
      rw [sumTo_succ] at b2
      simp only [] at b0 b2
      exact w_110_4 hL ⟨fun q1 => (by omega), fun q1 => ⟨(by (try simp only [ek] at *); first | omega | assumption | (refine ⟨?_, ?_⟩ <;> first | omega | assumption) | (split at b0 <;> omega) | (split at b0 <;> split at b2 <;> omega)), ⟨(by (try simp only [ek] at *); first | omega | assumption | (refine ⟨?_, ?_⟩ <;> first | omega | assumption) | (split at b0 <;> omega) | (split at b0 <;> split at b2 <;> omega)), (hc _ _ (by (try simp only [ek] at *); first | (rw [sumTo_succ, ← hs]; done) | (rw [sumTo_succ, ← hs]; (try simp only []); (repeat' split) <;> omega)) (by omega))⟩⟩⟩
    · intro s k hs hk
      exact w_110_4 hL ⟨fun q1 => (by rw [hs]; exact h), fun q1 => ⟨(by omega), ⟨(by omega), (by omega)⟩⟩⟩
  exact w_110_0 hL ((key _ _ rfl rfl))
theorem v_278 {sc : Nat × (Nat → Int)} {I : IH} {L : LH} {R : RH} {K : KH} {Q : AQ} {a0 a1 : Int} (hL : Lay R K) (p0 : 0 ≤ I 45 2 ∧ I 45 2 ≤ 7) (p1 : ∀ j, j < 7 → -9 ≤ I (rf R 47 a0.toNat) j ∧ I (rf R 47 a0.toNat) j ≤ 9) (p2 : 0 ≤ a0 ∧ a0 < 9) (p3 : R 47 a0.toNat = some (rf R 47 a0.toNat) ∧ K.1 (rf R 47 a0.toNat) = 100 ∧ K.2.1 (rf R 47 a0.toNat) = 7) (h : Q (some (aI (sumTo (fun (j : Nat) => (if iand (ishr a1 (j : Int)) 1 = 0 then I (rf R 47 a0.toNat) j else 0 : Int)) (I 45 2).toNat))) I L R K) : E sc 278 0 [some (aR (some 45)), some (aI a0), some (aI a1), none, none] [] I L R K Q := by
  obtain ⟨f1, f2, f3⟩ := p3
  have hB : ∀ j, j < (I 45 2).toNat → (fun (j : Nat) => (if iand (ishr a1 (j : Int)) 1 = 0 then I (rf R 47 a0.toNat) j else 0 : Int)) j ≤ 9 ∧ -9 ≤ (fun (j : Nat) => (if iand (ishr a1 (j : Int)) 1 = 0 then I (rf R 47 a0.toNat) j else 0 : Int)) j := by
    intro j hj
    show (if iand (ishr a1 (j : Int)) 1 = 0 then I (rf R 47 a0.toNat) j else 0 : Int) ≤ 9 ∧ -9 ≤ (if iand (ishr a1 (j : Int)) 1 = 0 then I (rf R 47 a0.toNat) j else 0 : Int)
    have := p1 j (by omega)
    (repeat' split) <;> omega
  have hb := sumTo_le (f := (fun (j : Nat) => (if iand (ishr a1 (j : Int)) 1 = 0 then I (rf R 47 a0.toNat) j else 0 : Int))) (B := 9) (m := (I 45 2).toNat) (by omega) hB
  have key : (fun (i : Nat) => ∀ (s k : Int), s = sumTo (fun (j : Nat) => (if iand (ishr a1 (j : Int)) 1 = 0 then I (rf R 47 a0.toNat) j else 0 : Int)) i → k = (i : Int) → E sc 278 5 [some (aR (some 45)), some (aI a0), some (aI a1), some (aI s), some (aI k)] [] I L R K Q) 0 := by
    refine loop_up (C := fun (i : Nat) => ∀ (s k : Int), s = sumTo (fun (j : Nat) => (if iand (ishr a1 (j : Int)) 1 = 0 then I (rf R 47 a0.toNat) j else 0 : Int)) i → k = (i : Int) → E sc 278 5 [some (aR (some 45)), some (aI a0), some (aI a1), some (aI s), some (aI k)] [] I L R K Q) (I 45 2).toNat ?_ ?_
    · intro i hi hc s k hs hk
      subst hk
      have ek : (i : Int).toNat = i := Int.toNat_natCast i
      have b0 := hB i hi
      have b1 := hb i (by omega)
      have b2 := hb (i + 1) (by omega)
      rw [sumTo_succ] at b2
      simp only [] at b0 b2
      exact w_278_5 hL ⟨fun q1 => (by omega), fun q1 => ⟨fun q2 => ⟨(by (try simp only [ek] at *); first | omega | assumption | (refine ⟨?_, ?_⟩ <;> first | omega | assumption) | (split at b0 <;> omega) | (split at b0 <;> split at b2 <;> omega)), (hc _ _ (by (try simp only [ek] at *); first | (rw [sumTo_succ, ← hs]; done) | (rw [sumTo_succ, ← hs]; (try simp only []); (repeat' split) <;> omega)) (by omega))⟩, fun q2 => ⟨(by (try simp only [ek] at *); first | omega | assumption | (refine ⟨?_, ?_⟩ <;> first | omega | assumption) | (split at b0 <;> omega) | (split at b0 <;> split at b2 <;> omega)), ⟨(by (try simp only [ek] at *); first | omega | assumption | (refine ⟨?_, ?_⟩ <;> first | omega | assumption) | (split at b0 <;> omega) | (split at b0 <;> split at b2 <;> omega)), ⟨(by (try simp only [ek] at *); first | omega | assumption | (refine ⟨?_, ?_⟩ <;> first | omega | assumption) | (split at b0 <;> omega) | (split at b0 <;> split at b2 <;> omega)), ⟨(by (try simp only [ek] at *); first | omega | assumption | (refine ⟨?_, ?_⟩ <;> first | omega | assumption) | (split at b0 <;> omega) | (split at b0 <;> split at b2 <;> omega)), (hc _ _ (by (try simp only [ek] at *); first | (rw [sumTo_succ, ← hs]; done) | (rw [sumTo_succ, ← hs]; (try simp only []); (repeat' split) <;> omega)) (by omega))⟩⟩⟩⟩⟩⟩
    · intro s k hs hk
      exact w_278_5 hL ⟨fun q1 => (by rw [hs]; exact h), fun q1 => ⟨fun q2 => ⟨(by omega), (by omega)⟩, fun q2 => ⟨(by omega), ⟨(by omega), ⟨(by omega), ⟨(by omega), (by omega)⟩⟩⟩⟩⟩⟩
  exact w_278_0 hL ((key _ _ rfl rfl))
theorem v_314 {sc : Nat × (Nat → Int)} {I : IH} {L : LH} {R : RH} {K : KH} {Q : AQ} {a0 : Int} (hL : Lay R K) (p0 : 0 ≤ I 36 8 ∧ I 36 8 ≤ 5) (p1 : ∀ j, j < 5 → 0 ≤ I 42 j ∧ I 42 j ≤ 1000) (h : Q (some (aI (sumTo (fun (j : Nat) => (if I 41 j = a0 then I 42 j else 0 : Int)) (I 36 8).toNat))) I L R K) : E sc 314 0 [some (aR (some 36)), some (aI a0), none, none] [] I L R K Q := by
  have hB : ∀ j, j < (I 36 8).toNat → (fun (j : Nat) => (if I 41 j = a0 then I 42 j else 0 : Int)) j ≤ 1000 ∧ -1000 ≤ (fun (j : Nat) => (if I 41 j = a0 then I 42 j else 0 : Int)) j := by
    intro j hj
    show (if I 41 j = a0 then I 42 j else 0 : Int) ≤ 1000 ∧ -1000 ≤ (if I 41 j = a0 then I 42 j else 0 : Int)
    have := p1 j (by omega)
    (repeat' split) <;> omega
  have hb := sumTo_le (f := (fun (j : Nat) => (if I 41 j = a0 then I 42 j else 0 : Int))) (B := 1000) (m := (I 36 8).toNat) (by omega) hB
  have key : (fun (i : Nat) => ∀ (s k : Int), s = sumTo (fun (j : Nat) => (if I 41 j = a0 then I 42 j else 0 : Int)) i → k = (i : Int) → E sc 314 4 [some (aR (some 36)), some (aI a0), some (aI s), some (aI k)] [] I L R K Q) 0 := by
    refine loop_up (C := fun (i : Nat) => ∀ (s k : Int), s = sumTo (fun (j : Nat) => (if I 41 j = a0 then I 42 j else 0 : Int)) i → k = (i : Int) → E sc 314 4 [some (aR (some 36)), some (aI a0), some (aI s), some (aI k)] [] I L R K Q) (I 36 8).toNat ?_ ?_
    · intro i hi hc s k hs hk
      subst hk
      have ek : (i : Int).toNat = i := Int.toNat_natCast i
      have b0 := hB i hi
      have b1 := hb i (by omega)
      have b2 := hb (i + 1) (by omega)
      rw [sumTo_succ] at b2
      simp only [] at b0 b2
      exact w_314_4 hL ⟨fun q1 => (by omega), fun q1 => ⟨(by (try simp only [ek] at *); first | omega | assumption | (refine ⟨?_, ?_⟩ <;> first | omega | assumption) | (split at b0 <;> omega) | (split at b0 <;> split at b2 <;> omega)), ⟨fun q2 => ⟨(by (try simp only [ek] at *); first | omega | assumption | (refine ⟨?_, ?_⟩ <;> first | omega | assumption) | (split at b0 <;> omega) | (split at b0 <;> split at b2 <;> omega)), (hc _ _ (by (try simp only [ek] at *); first | (rw [sumTo_succ, ← hs]; done) | (rw [sumTo_succ, ← hs]; (try simp only []); (repeat' split) <;> omega)) (by omega))⟩, fun q2 => ⟨(by (try simp only [ek] at *); first | omega | assumption | (refine ⟨?_, ?_⟩ <;> first | omega | assumption) | (split at b0 <;> omega) | (split at b0 <;> split at b2 <;> omega)), ⟨(by (try simp only [ek] at *); first | omega | assumption | (refine ⟨?_, ?_⟩ <;> first | omega | assumption) | (split at b0 <;> omega) | (split at b0 <;> split at b2 <;> omega)), ⟨(by (try simp only [ek] at *); first | omega | assumption | (refine ⟨?_, ?_⟩ <;> first | omega | assumption) | (split at b0 <;> omega) | (split at b0 <;> split at b2 <;> omega)), (hc _ _ (by (try simp only [ek] at *); first | (rw [sumTo_succ, ← hs]; done) | (rw [sumTo_succ, ← hs]; (try simp only []); (repeat' split) <;> omega)) (by omega))⟩⟩⟩⟩⟩⟩
    · intro s k hs hk
      exact w_314_4 hL ⟨fun q1 => (by rw [hs]; exact h), fun q1 => ⟨(by omega), ⟨fun q2 => ⟨(by omega), (by omega)⟩, fun q2 => ⟨(by omega), ⟨(by omega), ⟨(by omega), (by omega)⟩⟩⟩⟩⟩⟩
  exact w_314_0 hL ((key _ _ rfl rfl))
