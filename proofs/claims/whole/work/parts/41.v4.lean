/-! the first of several -/
def ffrom (p : Nat → Prop) [DecidablePred p] (z : Int) (n : Nat) : Nat → Int
  | 0 => z
  | d + 1 => if p (n - (d + 1)) then ((n - (d + 1) : Nat) : Int) else ffrom p z n d
theorem ffrom_step {p : Nat → Prop} [DecidablePred p] {z : Int} {n i : Nat} (h : i < n) : ffrom p z n (n - i) = if p i then (i : Int) else ffrom p z n (n - (i + 1)) := by
  have e : n - i = (n - (i + 1)) + 1 := by omega
  have e2 : n - (n - (i + 1) + 1) = i := by omega
  rw [e, ffrom, e2]
theorem ffrom_congr {p q : Nat → Prop} [DecidablePred p] [DecidablePred q] {z : Int} {n : Nat} (h : ∀ j, j < n → (p j ↔ q j)) : ∀ d, d ≤ n → ffrom p z n d = ffrom q z n d := by
  intro d
  induction d with
  | zero => intro _; rfl
  | succ d ih =>
    intro hd
    rw [ffrom, ffrom, ih (by omega)]
    have h1 := h (n - (d + 1)) (by omega)
    by_cases hp : p (n - (d + 1))
    · rw [if_pos hp, if_pos (h1.mp hp)]
    · rw [if_neg hp, if_neg (fun q => hp (h1.mpr q))]
theorem ffrom_spec {p : Nat → Prop} [DecidablePred p] {z : Int} {n : Nat} : ∀ d, d ≤ n → (ffrom p z n d = z ∧ ∀ j, n - d ≤ j → j < n → ¬ p j) ∨ ∃ j, n - d ≤ j ∧ j < n ∧ p j ∧ ffrom p z n d = (j : Int) ∧ ∀ i, n - d ≤ i → i < j → ¬ p i := by
  intro d
  induction d with
  | zero => intro _; exact Or.inl ⟨rfl, fun j h1 h2 => absurd h1 (by omega)⟩
  | succ d ih =>
    intro hd
    rw [ffrom]
    by_cases hp : p (n - (d + 1))
    · rw [if_pos hp]
      exact Or.inr ⟨n - (d + 1), by omega, by omega, hp, rfl, fun i h1 h2 => absurd h1 (by omega)⟩
    · rw [if_neg hp]
      have hne : ∀ j, n - (d + 1) ≤ j → ¬ n - d ≤ j → ¬ p j := by
        intro j h1 h2
        have e : j = n - (d + 1) := by omega
        rw [e]; exact hp
      rcases ih (by omega) with ⟨h1, h2⟩ | ⟨j, h1, h2, h3, h4, h5⟩
      · refine Or.inl ⟨h1, fun j h3 h4 => ?_⟩
        by_cases e : n - d ≤ j
        · exact h2 j e h4
        · exact hne j h3 e
      · refine Or.inr ⟨j, by omega, h2, h3, h4, fun i h6 h7 => ?_⟩
        by_cases e : n - d ≤ i
        · exact h5 i e h7
        · exact hne i h6 e
theorem loop_upf {C : Nat → Prop} (n : Nat) (hs : ∀ i, i < n → C (i + 1) → C i) (he : C n) (s : Nat) (h : s ≤ n) : C s := by
  have key : ∀ d, d ≤ n → C (n - d) := by
    intro d
    induction d with
    | zero => intro _; exact he
    | succ d ih =>
      intro hd
      have h1 := ih (by omega)
      have e : n - d = (n - (d + 1)) + 1 := by omega
      rw [e] at h1
      exact hs _ (by omega) h1
  have := key (n - s) (by omega)
  have e : n - (n - s) = s := by omega
  rwa [e] at this
theorem v_218 {sc : Nat × (Nat → Int)} {I : IH} {L : LH} {R : RH} {K : KH} {Q : AQ} {a0 : Int} (hL : Lay R K) (p0 : 0 ≤ I 27 9 ∧ I 27 9 ≤ 30) (h : Q (some (aI (ffrom (fun (j : Nat) => I 29 j = a0 ∧ I 34 j = 0 ∧ (j : Int) ≠ -1) (-1) (I 27 9).toNat (I 27 9).toNat))) I L R K) : E sc 218 0 [some (aR (some 27)), some (aI a0), none] [] I L R K Q := by
  have key : (fun (i : Nat) => Q (some (aI (ffrom (fun (j : Nat) => I 29 j = a0 ∧ I 34 j = 0 ∧ (j : Int) ≠ -1) (-1) (I 27 9).toNat ((I 27 9).toNat - i)))) I L R K → ∀ (k : Int), k = (i : Int) → E sc 218 2 [some (aR (some 27)), some (aI a0), some (aI k)] [] I L R K Q) 0 := by
    refine loop_upf (C := fun (i : Nat) => Q (some (aI (ffrom (fun (j : Nat) => I 29 j = a0 ∧ I 34 j = 0 ∧ (j : Int) ≠ -1) (-1) (I 27 9).toNat ((I 27 9).toNat - i)))) I L R K → ∀ (k : Int), k = (i : Int) → E sc 218 2 [some (aR (some 27)), some (aI a0), some (aI k)] [] I L R K Q) (I 27 9).toNat ?_ ?_ 0 (by omega)
    · intro i hi hc hq k hk
      subst hk
      have ek : (i : Int).toNat = i := Int.toNat_natCast i
      rw [ffrom_step hi] at hq
      (try simp only [] at hq)
      exact w_218_2 hL ⟨fun q1 => (by (try simp only [ek] at *); first | omega | (split at hq <;> first | exact hq | omega)), fun q1 => ⟨(by (try simp only [ek] at *); first | omega | assumption | (refine ⟨?_, ?_⟩ <;> first | omega | assumption)), ⟨fun q2 => (by (try simp only [ek] at *); first | omega | (split at hq <;> first | exact hq | omega)), fun q2 => ⟨(by (try simp only [ek] at *); first | omega | assumption | (refine ⟨?_, ?_⟩ <;> first | omega | assumption)), (hc (by (try simp only [ek] at *); first | omega | (split at hq <;> first | exact hq | omega)) _ (by omega))⟩⟩⟩⟩
    · intro hq k hk
      rw [Nat.sub_self] at hq
      exact w_218_2 hL ⟨fun q1 => (by first | exact hq | omega), fun q1 => ⟨(by omega), ⟨fun q2 => (by first | exact hq | omega), fun q2 => ⟨(by omega), (by omega)⟩⟩⟩⟩
  exact w_218_0 hL ((key h _ rfl))
theorem v_129 {sc : Nat × (Nat → Int)} {I : IH} {L : LH} {R : RH} {K : KH} {Q : AQ} {a0 : Int} (hL : Lay R K) (p0 : 0 ≤ I 77 31 ∧ I 77 31 ≤ 30) (h : Q (some (aI (ffrom (fun (j : Nat) => I 103 j = a0 ∧ I 108 j = 0) (-1) (I 77 31).toNat (I 77 31).toNat))) I L R K) : E sc 129 0 [some (aR (some 77)), some (aI a0), none] [] I L R K Q := by
  have key : (fun (i : Nat) => Q (some (aI (ffrom (fun (j : Nat) => I 103 j = a0 ∧ I 108 j = 0) (-1) (I 77 31).toNat ((I 77 31).toNat - i)))) I L R K → ∀ (k : Int), k = (i : Int) → E sc 129 2 [some (aR (some 77)), some (aI a0), some (aI k)] [] I L R K Q) 0 := by
    refine loop_upf (C := fun (i : Nat) => Q (some (aI (ffrom (fun (j : Nat) => I 103 j = a0 ∧ I 108 j = 0) (-1) (I 77 31).toNat ((I 77 31).toNat - i)))) I L R K → ∀ (k : Int), k = (i : Int) → E sc 129 2 [some (aR (some 77)), some (aI a0), some (aI k)] [] I L R K Q) (I 77 31).toNat ?_ ?_ 0 (by omega)
    · intro i hi hc hq k hk
      subst hk
      have ek : (i : Int).toNat = i := Int.toNat_natCast i
      rw [ffrom_step hi] at hq
      (try simp only [] at hq)
      exact w_129_2 hL ⟨fun q1 => (by (try simp only [ek] at *); first | omega | (split at hq <;> first | exact hq | omega)), fun q1 => ⟨(by (try simp only [ek] at *); first | omega | assumption | (refine ⟨?_, ?_⟩ <;> first | omega | assumption)), ⟨fun q2 => (by (try simp only [ek] at *); first | omega | (split at hq <;> first | exact hq | omega)), fun q2 => ⟨(by (try simp only [ek] at *); first | omega | assumption | (refine ⟨?_, ?_⟩ <;> first | omega | assumption)), (hc (by (try simp only [ek] at *); first | omega | (split at hq <;> first | exact hq | omega)) _ (by omega))⟩⟩⟩⟩
    · intro hq k hk
      rw [Nat.sub_self] at hq
      exact w_129_2 hL ⟨fun q1 => (by first | exact hq | omega), fun q1 => ⟨(by omega), ⟨fun q2 => (by first | exact hq | omega), fun q2 => ⟨(by omega), (by omega)⟩⟩⟩⟩
  exact w_129_0 hL ((key h _ rfl))
theorem v_179 {sc : Nat × (Nat → Int)} {I : IH} {L : LH} {R : RH} {K : KH} {Q : AQ} {a0 : Int} (hL : Lay R K) (p0 : 0 ≤ I 22 5 ∧ I 22 5 ≤ 100) (p1 : 0 ≤ a0 ∧ a0 < I 22 5) (h : Q (some (aI (ffrom (fun (j : Nat) => (I 23 j = I 23 a0.toNat ∧ I 24 j = I 24 a0.toNat) ∧ I 25 j ≠ I 25 a0.toNat) (-1) (I 22 5).toNat ((I 22 5).toNat - (a0 + 1).toNat)))) I L R K) : E sc 179 0 [some (aR (some 22)), some (aI a0), none, none] [] I L R K Q := by
  have key : (fun (i : Nat) => Q (some (aI (ffrom (fun (j : Nat) => (I 23 j = I 23 a0.toNat ∧ I 24 j = I 24 a0.toNat) ∧ I 25 j ≠ I 25 a0.toNat) (-1) (I 22 5).toNat ((I 22 5).toNat - i)))) I L R K → ∀ (k : Int) (o3 : Option AV) (_ : nL o3), k = (i : Int) → E sc 179 4 [some (aR (some 22)), some (aI a0), some (aI k), o3] [] I L R K Q) (a0 + 1).toNat := by
    refine loop_upf (C := fun (i : Nat) => Q (some (aI (ffrom (fun (j : Nat) => (I 23 j = I 23 a0.toNat ∧ I 24 j = I 24 a0.toNat) ∧ I 25 j ≠ I 25 a0.toNat) (-1) (I 22 5).toNat ((I 22 5).toNat - i)))) I L R K → ∀ (k : Int) (o3 : Option AV) (_ : nL o3), k = (i : Int) → E sc 179 4 [some (aR (some 22)), some (aI a0), some (aI k), o3] [] I L R K Q) (I 22 5).toNat ?_ ?_ (a0 + 1).toNat (by omega)
    · intro i hi hc hq k o3 no3 hk
      subst hk
      have ek : (i : Int).toNat = i := Int.toNat_natCast i
      rw [ffrom_step hi] at hq
      (try simp only [] at hq)
      exact w_179_4 no3 hL ⟨fun q1 => (by (try simp only [ek] at *); first | omega | (split at hq <;> first | exact hq | omega)), fun q1 => ⟨(by (try simp only [ek] at *); first | omega | assumption | (refine ⟨?_, ?_⟩ <;> first | omega | assumption)), ⟨(by (try simp only [ek] at *); first | omega | assumption | (refine ⟨?_, ?_⟩ <;> first | omega | assumption)), ⟨fun q2 => ⟨(by (try simp only [ek] at *); first | omega | assumption | (refine ⟨?_, ?_⟩ <;> first | omega | assumption)), (hc (by (try simp only [ek] at *); first | omega | (split at hq <;> first | exact hq | omega)) _ _ (by first | assumption | exact nl_i | exact nl_n | exact nl_r) (by omega))⟩, fun q2 => ⟨(by (try simp only [ek] at *); first | omega | assumption | (refine ⟨?_, ?_⟩ <;> first | omega | assumption)), ⟨(by (try simp only [ek] at *); first | omega | assumption | (refine ⟨?_, ?_⟩ <;> first | omega | assumption)), ⟨fun q3 => ⟨(by (try simp only [ek] at *); first | omega | assumption | (refine ⟨?_, ?_⟩ <;> first | omega | assumption)), (hc (by (try simp only [ek] at *); first | omega | (split at hq <;> first | exact hq | omega)) _ _ (by first | assumption | exact nl_i | exact nl_n | exact nl_r) (by omega))⟩, fun q3 => ⟨(by (try simp only [ek] at *); first | omega | assumption | (refine ⟨?_, ?_⟩ <;> first | omega | assumption)), ⟨(by (try simp only [ek] at *); first | omega | assumption | (refine ⟨?_, ?_⟩ <;> first | omega | assumption)), ⟨fun q4 => ⟨(by (try simp only [ek] at *); first | omega | assumption | (refine ⟨?_, ?_⟩ <;> first | omega | assumption)), (hc (by (try simp only [ek] at *); first | omega | (split at hq <;> first | exact hq | omega)) _ _ (by first | assumption | exact nl_i | exact nl_n | exact nl_r) (by omega))⟩, fun q4 => (by (try simp only [ek] at *); first | omega | (split at hq <;> first | exact hq | omega))⟩⟩⟩⟩⟩⟩⟩⟩⟩⟩
    · intro hq k o3 no3 hk
      rw [Nat.sub_self] at hq
      exact w_179_4 no3 hL ⟨fun q1 => (by first | exact hq | omega), fun q1 => ⟨(by omega), ⟨(by omega), ⟨fun q2 => ⟨(by omega), (by omega)⟩, fun q2 => ⟨(by omega), ⟨(by omega), ⟨fun q3 => ⟨(by omega), (by omega)⟩, fun q3 => ⟨(by omega), ⟨(by omega), ⟨fun q4 => ⟨(by omega), (by omega)⟩, fun q4 => (by first | exact hq | omega)⟩⟩⟩⟩⟩⟩⟩⟩⟩⟩
  exact w_179_0 hL (⟨(by first | omega | assumption), (key h _ _ (by first | exact nl_n | exact nl_i) (by omega))⟩)
