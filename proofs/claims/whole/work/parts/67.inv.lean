/-! the invariant: the class's cells against the reference's -/
theorem setF_c {I : IH} {a b i j : Nat} {v : Int} (h : a ≠ b) : setF I b i v a j = I a j := by
  unfold setF; rw [if_neg (fun q => h q.1)]
theorem setF_i {I : IH} {a i j : Nat} {v : Int} : setF I a i v a j = if j = i then v else I a j := by
  unfold setF
  by_cases h : j = i
  · rw [if_pos ⟨rfl, h⟩, if_pos h]
  · rw [if_neg (fun q => h q.2), if_neg h]
theorem setF_n {I : IH} {a b i j : Nat} {v : Int} (h : ¬(a = b ∧ j = i)) : setF I b i v a j = I a j := by
  unfold setF; rw [if_neg h]
theorem setF_s {I : IH} {a i : Nat} {v : Int} : setF I a i v a i = v := by
  unfold setF; rw [if_pos ⟨rfl, rfl⟩]
/-- two heaps of ints agree where p says so -/
def Ag (p : Nat → Nat → Prop) (I I1 : IH) : Prop := ∀ a j, p a j → I1 a j = I a j
theorem ag_r {p : Nat → Nat → Prop} {I : IH} : Ag p I I := fun _ _ _ => rfl
theorem ag_s {p : Nat → Nat → Prop} {I I1 : IH} {b i : Nat} {v : Int} (h : Ag p I I1) (hn : ¬ p b i) : Ag p I (setF I1 b i v) := by
  intro a j hp
  rw [setF_n (fun q => hn (by rw [← q.1, ← q.2]; exact hp))]
  exact h a j hp
theorem ag_t {p : Nat → Nat → Prop} {I I1 I2 : IH} (h : Ag p I I1) (h2 : Ag p I1 I2) : Ag p I I2 := fun a j hp => (h2 a j hp).trans (h a j hp)
theorem ag_m {p q : Nat → Nat → Prop} {I I1 : IH} (h : Ag p I I1) (hm : ∀ a j, q a j → p a j) : Ag q I I1 := fun a j hq => h a j (hm a j hq)
def holdsT (t s : Int) : Bool := decide (((t % 500 % 40 / 10 = 0 ∧ s / unF (t % 500 / 40) % szF (t % 500 / 40) < t % 10) ∨ (t % 500 % 40 / 10 = 1 ∧ s / unF (t % 500 / 40) % szF (t % 500 / 40) = t % 10) ∨ (t % 500 % 40 / 10 ≠ 0 ∧ t % 500 % 40 / 10 ≠ 1 ∧ t % 10 < s / unF (t % 500 / 40) % szF (t % 500 / 40))) ↔ t % 1000 < 500)
/-- any, all over the first n tests -/
def anyAll (f : Nat → Int) (s : Int) : Nat → Bool × Bool
  | 0 => (false, true)
  | n + 1 => if 1000 ≤ f n then ((anyAll f s n).1 || (anyAll f s n).2, holdsT (f n) s) else ((anyAll f s n).1, (anyAll f s n).2 && holdsT (f n) s)
def bi (b : Bool) : Int := if b then 1 else 0
def fitsB (n un : Int) (f : Nat → Int) (s : Int) : Bool := if n = 0 then true else decide (bi ((anyAll f s n.toNat).1 || (anyAll f s n.toNat).2) ≠ un)
/-- the reference's fitsText -/
def fitsM (I : IH) (t : Nat) (s : Int) : Bool := fitsB (I 81 t) (I 80 t) (fun k => I 82 (5 * t + k)) s
theorem anyAll_c {f g : Nat → Int} {s : Int} : ∀ n, (∀ k, k < n → f k = g k) → anyAll f s n = anyAll g s n := by
  intro n
  induction n with
  | zero => intro _; rfl
  | succ n ih => intro h; rw [anyAll, anyAll, ih (fun k hk => h k (by omega)), h n (by omega)]
theorem fitsB_c {f g : Nat → Int} {s n u : Int} (h : ∀ k : Nat, (k : Int) < n → f k = g k) : fitsB n u f s = fitsB n u g s := by
  unfold fitsB
  rw [anyAll_c n.toNat (fun k hk => h k (by omega))]
def InvS (I : IH) : Prop := I 0 12 = I 77 0 ∧ 0 ≤ I 77 0 ∧ I 77 0 ≤ 3999 ∧ I 0 11 = I 77 2 ∧ 0 ≤ I 77 2 ∧ I 77 2 ≤ 90 ∧ I 0 13 = I 77 22 ∧ 0 ≤ I 77 22 ∧ I 77 22 ≤ 2 ∧ I 77 57 = -1 ∧ (∀ j, j < 90 → I 1 j = I 78 j ∧ 0 ≤ I 78 j ∧ I 78 j ≤ 255)
def pS (a j : Nat) : Prop := (a = 0 ∧ (j = 11 ∨ j = 12 ∨ j = 13)) ∨ a = 1 ∨ a = 78 ∨ (a = 77 ∧ (j = 0 ∨ j = 2 ∨ j = 22 ∨ j = 57))
theorem invS_a {I I1 : IH} (hI : InvS I) (h : Ag pS I I1) : InvS I1 := by
  unfold InvS at hI ⊢
  simp only [(fun j => h 1 j (by unfold pS; omega) : ∀ j, I1 1 j = I 1 j), (fun j => h 78 j (by unfold pS; omega) : ∀ j, I1 78 j = I 78 j), h 0 11 (by unfold pS; omega), h 0 12 (by unfold pS; omega), h 0 13 (by unfold pS; omega), h 77 0 (by unfold pS; omega), h 77 2 (by unfold pS; omega), h 77 22 (by unfold pS; omega), h 77 57 (by unfold pS; omega)]
  exact hI
def InvD (I : IH) : Prop := I 14 8 = I 77 18 ∧ 0 ≤ I 77 18 ∧ I 77 18 ≤ 8 ∧ (∀ d, d < 8 → I 15 d = I 93 d ∧ 0 ≤ I 93 d ∧ I 93 d ≤ 4 ∧ I 16 d = I 94 d ∧ 0 ≤ I 94 d ∧ I 94 d ≤ 99) ∧ (∀ d : Nat, (d : Int) < I 77 18 → I 17 d = I 95 d ∧ -1 ≤ I 95 d ∧ I 95 d ≤ 3999)
def pD (a j : Nat) : Prop := (a = 14 ∧ j = 8) ∨ (15 ≤ a ∧ a ≤ 17) ∨ (93 ≤ a ∧ a ≤ 95) ∨ (a = 77 ∧ j = 18)
theorem invD_a {I I1 : IH} (hI : InvD I) (h : Ag pD I I1) : InvD I1 := by
  unfold InvD at hI ⊢
  simp only [(fun j => h 15 j (by unfold pD; omega) : ∀ j, I1 15 j = I 15 j), (fun j => h 16 j (by unfold pD; omega) : ∀ j, I1 16 j = I 16 j), (fun j => h 17 j (by unfold pD; omega) : ∀ j, I1 17 j = I 17 j), (fun j => h 93 j (by unfold pD; omega) : ∀ j, I1 93 j = I 93 j), (fun j => h 94 j (by unfold pD; omega) : ∀ j, I1 94 j = I 94 j), (fun j => h 95 j (by unfold pD; omega) : ∀ j, I1 95 j = I 95 j), h 14 8 (by unfold pD; omega), h 77 18 (by unfold pD; omega)]
  exact hI
def InvE (I : IH) : Prop := I 14 9 = I 77 27 ∧ 0 ≤ I 77 27 ∧ I 77 27 ≤ 60 ∧ (∀ i : Nat, (i : Int) < I 77 27 → I 19 i = I 99 i ∧ 0 ≤ I 99 i ∧ I 99 i < I 77 18 ∧ I 20 i = I 100 i ∧ 0 ≤ I 100 i ∧ I 100 i ≤ 1535 ∧ I 21 i = I 101 i ∧ 0 ≤ I 101 i ∧ I 101 i ≤ I 77 0)
def pE (a j : Nat) : Prop := (a = 14 ∧ j = 9) ∨ (19 ≤ a ∧ a ≤ 21) ∨ (99 ≤ a ∧ a ≤ 101) ∨ (a = 77 ∧ (j = 0 ∨ j = 18 ∨ j = 27))
theorem invE_a {I I1 : IH} (hI : InvE I) (h : Ag pE I I1) : InvE I1 := by
  unfold InvE at hI ⊢
  simp only [(fun j => h 100 j (by unfold pE; omega) : ∀ j, I1 100 j = I 100 j), (fun j => h 101 j (by unfold pE; omega) : ∀ j, I1 101 j = I 101 j), (fun j => h 19 j (by unfold pE; omega) : ∀ j, I1 19 j = I 19 j), (fun j => h 20 j (by unfold pE; omega) : ∀ j, I1 20 j = I 20 j), (fun j => h 21 j (by unfold pE; omega) : ∀ j, I1 21 j = I 21 j), (fun j => h 99 j (by unfold pE; omega) : ∀ j, I1 99 j = I 99 j), h 14 9 (by unfold pE; omega), h 77 0 (by unfold pE; omega), h 77 18 (by unfold pE; omega), h 77 27 (by unfold pE; omega)]
  exact hI
def InvC (I : IH) : Prop := I 22 5 = I 77 23 ∧ 0 ≤ I 77 23 ∧ I 77 23 ≤ 100 ∧ (∀ i : Nat, (i : Int) < I 77 23 → I 23 i = I 96 i ∧ 0 ≤ I 96 i ∧ I 96 i < I 77 18 ∧ I 24 i = I 97 i ∧ 0 ≤ I 97 i ∧ I 97 i ≤ 1535 ∧ I 25 i = I 98 i ∧ (I 98 i = 0 ∨ I 98 i = 1 ∨ (100 ≤ I 98 i ∧ I 98 i ≤ 203)))
def pC (a j : Nat) : Prop := (a = 22 ∧ j = 5) ∨ (23 ≤ a ∧ a ≤ 25) ∨ (96 ≤ a ∧ a ≤ 98) ∨ (a = 77 ∧ (j = 18 ∨ j = 23))
theorem invC_a {I I1 : IH} (hI : InvC I) (h : Ag pC I I1) : InvC I1 := by
  unfold InvC at hI ⊢
  simp only [(fun j => h 23 j (by unfold pC; omega) : ∀ j, I1 23 j = I 23 j), (fun j => h 24 j (by unfold pC; omega) : ∀ j, I1 24 j = I 24 j), (fun j => h 25 j (by unfold pC; omega) : ∀ j, I1 25 j = I 25 j), (fun j => h 96 j (by unfold pC; omega) : ∀ j, I1 96 j = I 96 j), (fun j => h 97 j (by unfold pC; omega) : ∀ j, I1 97 j = I 97 j), (fun j => h 98 j (by unfold pC; omega) : ∀ j, I1 98 j = I 98 j), h 22 5 (by unfold pC; omega), h 77 18 (by unfold pC; omega), h 77 23 (by unfold pC; omega)]
  exact hI
def InvP (I : IH) : Prop := I 27 9 = I 77 31 ∧ 0 ≤ I 77 31 ∧ I 77 31 ≤ 30 ∧ (∀ i : Nat, (i : Int) < I 77 31 → I 28 i = I 102 i ∧ 0 ≤ I 102 i ∧ I 102 i < I 77 18 ∧ I 29 i = I 103 i ∧ -1 ≤ I 103 i ∧ I 103 i < (i : Int) ∧ I 30 i = I 104 i ∧ 0 ≤ I 104 i ∧ I 104 i ≤ 3 ∧ I 31 i = I 105 i ∧ 0 ≤ I 105 i ∧ I 105 i ≤ 2 ∧ I 32 i = I 106 i ∧ 0 ≤ I 106 i ∧ I 106 i ≤ 1 ∧ I 33 i = I 107 i ∧ I 34 i = I 108 i ∧ 0 ≤ I 108 i ∧ I 108 i ≤ 2 ∧ I 35 i = I 109 i ∧ -1 ≤ I 109 i ∧ I 109 i ≤ 1535 ∧ (I 108 i = 2 → 0 ≤ I 109 i)) ∧ (∀ i : Nat, i < 30 → 0 ≤ I 107 i ∧ I 33 i = I 107 i ∧ (I 77 31 ≤ (i : Int) → I 108 i = 0 ∧ I 107 i = 0)) ∧ (∀ d : Nat, d < 8 → I 18 d = I 110 d ∧ 0 ≤ I 110 d ∧ (I 77 18 ≤ (d : Int) → I 110 d = 0)) ∧ sumTo (fun j => I 107 j) 30 + sumTo (fun j => I 110 j) 8 ≤ 9999 * I 77 31
def pP (a j : Nat) : Prop := (a = 27 ∧ j = 9) ∨ a = 18 ∨ (28 ≤ a ∧ a ≤ 35) ∨ (102 ≤ a ∧ a ≤ 110) ∨ (a = 77 ∧ (j = 18 ∨ j = 31))
theorem invP_a {I I1 : IH} (hI : InvP I) (h : Ag pP I I1) : InvP I1 := by
  unfold InvP at hI ⊢
  simp only [(fun j => h 102 j (by unfold pP; omega) : ∀ j, I1 102 j = I 102 j), (fun j => h 103 j (by unfold pP; omega) : ∀ j, I1 103 j = I 103 j), (fun j => h 104 j (by unfold pP; omega) : ∀ j, I1 104 j = I 104 j), (fun j => h 105 j (by unfold pP; omega) : ∀ j, I1 105 j = I 105 j), (fun j => h 106 j (by unfold pP; omega) : ∀ j, I1 106 j = I 106 j), (fun j => h 107 j (by unfold pP; omega) : ∀ j, I1 107 j = I 107 j), (fun j => h 108 j (by unfold pP; omega) : ∀ j, I1 108 j = I 108 j), (fun j => h 109 j (by unfold pP; omega) : ∀ j, I1 109 j = I 109 j), (fun j => h 110 j (by unfold pP; omega) : ∀ j, I1 110 j = I 110 j), (fun j => h 18 j (by unfold pP; omega) : ∀ j, I1 18 j = I 18 j), (fun j => h 28 j (by unfold pP; omega) : ∀ j, I1 28 j = I 28 j), (fun j => h 29 j (by unfold pP; omega) : ∀ j, I1 29 j = I 29 j), (fun j => h 30 j (by unfold pP; omega) : ∀ j, I1 30 j = I 30 j), (fun j => h 31 j (by unfold pP; omega) : ∀ j, I1 31 j = I 31 j), (fun j => h 32 j (by unfold pP; omega) : ∀ j, I1 32 j = I 32 j), (fun j => h 33 j (by unfold pP; omega) : ∀ j, I1 33 j = I 33 j), (fun j => h 34 j (by unfold pP; omega) : ∀ j, I1 34 j = I 34 j), (fun j => h 35 j (by unfold pP; omega) : ∀ j, I1 35 j = I 35 j), h 27 9 (by unfold pP; omega), h 77 18 (by unfold pP; omega), h 77 31 (by unfold pP; omega)]
  exact hI
def InvT (I : IH) : Prop := I 45 2 = I 77 43 ∧ 0 ≤ I 77 43 ∧ I 77 43 ≤ 7 ∧ I 45 3 = I 77 45 ∧ 0 ≤ I 77 45 ∧ I 77 45 ≤ 9 ∧ (∀ l, l < 7 → I 46 l = I 113 l ∧ 0 ≤ I 113 l ∧ I 113 l ≤ 99) ∧ (∀ s l, s < 9 → l < 7 → I (48 + s) l = I 114 (7 * s + l) ∧ -9 ≤ I 114 (7 * s + l) ∧ I 114 (7 * s + l) ≤ 9)
def pT (a j : Nat) : Prop := (a = 45 ∧ (j = 2 ∨ j = 3)) ∨ a = 46 ∨ (48 ≤ a ∧ a ≤ 56) ∨ a = 113 ∨ a = 114 ∨ (a = 77 ∧ (j = 43 ∨ j = 45))
theorem invT_a {I I1 : IH} (hI : InvT I) (h : Ag pT I I1) : InvT I1 := by
  have x48 : ∀ s l, s < 9 → I1 (48 + s) l = I (48 + s) l := fun s l hs => h _ _ (by unfold pT; omega)
  unfold InvT at hI ⊢
  simp only [(fun j => h 113 j (by unfold pT; omega) : ∀ j, I1 113 j = I 113 j), (fun j => h 114 j (by unfold pT; omega) : ∀ j, I1 114 j = I 114 j), (fun j => h 46 j (by unfold pT; omega) : ∀ j, I1 46 j = I 46 j), h 45 2 (by unfold pT; omega), h 45 3 (by unfold pT; omega), h 77 43 (by unfold pT; omega), h 77 45 (by unfold pT; omega)]
  exact ⟨hI.1, hI.2.1, hI.2.2.1, hI.2.2.2.1, hI.2.2.2.2.1, hI.2.2.2.2.2.1, hI.2.2.2.2.2.2.1, fun s l hs hl => by rw [x48 s l hs]; exact hI.2.2.2.2.2.2.2 s l hs hl⟩
def InvL (I : IH) : Prop := (∀ d, d < 8 → I 58 d = I 115 d ∧ 1 ≤ I 115 d ∧ I 115 d ≤ 12 ∧ I 59 d = I 116 d ∧ 0 ≤ I 116 d ∧ I 116 d ≤ 99 ∧ I 60 d = I 117 d ∧ -1 ≤ I 117 d ∧ (I 117 d = -1 ∨ I 117 d < I 77 18)) ∧ (∃ ρ : Nat → Nat, ∀ d, d < 8 → I 117 d = -1 ∨ ρ (I 117 d).toNat < ρ d)
def pL (a j : Nat) : Prop := (58 ≤ a ∧ a ≤ 60) ∨ (115 ≤ a ∧ a ≤ 117) ∨ (a = 77 ∧ j = 18)
theorem invL_a {I I1 : IH} (hI : InvL I) (h : Ag pL I I1) : InvL I1 := by
  unfold InvL at hI ⊢
  simp only [(fun j => h 115 j (by unfold pL; omega) : ∀ j, I1 115 j = I 115 j), (fun j => h 116 j (by unfold pL; omega) : ∀ j, I1 116 j = I 116 j), (fun j => h 117 j (by unfold pL; omega) : ∀ j, I1 117 j = I 117 j), (fun j => h 58 j (by unfold pL; omega) : ∀ j, I1 58 j = I 58 j), (fun j => h 59 j (by unfold pL; omega) : ∀ j, I1 59 j = I 59 j), (fun j => h 60 j (by unfold pL; omega) : ∀ j, I1 60 j = I 60 j), h 77 18 (by unfold pL; omega)]
  exact hI
def InvA (I : IH) : Prop := I 2 5 = I 77 51 ∧ 0 ≤ I 77 51 ∧ I 77 51 ≤ 100 ∧ (∀ i : Nat, i < 20 → (i : Int) < I 77 51 → I 13 i = I 118 i)
def pA (a j : Nat) : Prop := (a = 2 ∧ j = 5) ∨ a = 13 ∨ a = 118 ∨ (a = 77 ∧ j = 51)
theorem invA_a {I I1 : IH} (hI : InvA I) (h : Ag pA I I1) : InvA I1 := by
  unfold InvA at hI ⊢
  simp only [(fun j => h 118 j (by unfold pA; omega) : ∀ j, I1 118 j = I 118 j), (fun j => h 13 j (by unfold pA; omega) : ∀ j, I1 13 j = I 13 j), h 2 5 (by unfold pA; omega), h 77 51 (by unfold pA; omega)]
  exact hI
def InvX (I : IH) : Prop := (∀ s, s < 3 → I 67 s = I 119 s ∧ -1 ≤ I 119 s ∧ I 119 s ≤ 2 ∧ I 68 s = I 120 s ∧ 0 ≤ I 120 s ∧ I 120 s ≤ 40) ∧ (∀ s i, s < 3 → i < 40 → I 119 s ≠ -1 → I (64 + s) i = I 121 (40 * s + i))
def pX (a j : Nat) : Prop := (64 ≤ a ∧ a ≤ 68) ∨ (119 ≤ a ∧ a ≤ 121)
theorem invX_a {I I1 : IH} (hI : InvX I) (h : Ag pX I I1) : InvX I1 := by
  have x64 : ∀ s l, s < 3 → I1 (64 + s) l = I (64 + s) l := fun s l hs => h _ _ (by unfold pX; omega)
  unfold InvX at hI ⊢
  simp only [(fun j => h 119 j (by unfold pX; omega) : ∀ j, I1 119 j = I 119 j), (fun j => h 120 j (by unfold pX; omega) : ∀ j, I1 120 j = I 120 j), (fun j => h 121 j (by unfold pX; omega) : ∀ j, I1 121 j = I 121 j), (fun j => h 67 j (by unfold pX; omega) : ∀ j, I1 67 j = I 67 j), (fun j => h 68 j (by unfold pX; omega) : ∀ j, I1 68 j = I 68 j)]
  exact ⟨hI.1, fun s i hs hi hn => by rw [x64 s i hs]; exact hI.2 s i hs hi hn⟩
/-- a Text of the class is the reference's text t -/
def TextEq (I : IH) (L : LH) (R : RH) (K : KH) (x t : Nat) : Prop := ((x = 71 ∨ 131 ≤ x) ∧ K.1 x = 9 ∧ R x 4 = some (x + 4) ∧ K.1 (x + 4) = 7 ∧ R (x + 4) 0 = some (x + 5) ∧ K.1 (x + 5) = 102 ∧ K.2.1 (x + 5) = 24) ∧ (I x 8 = I 79 t ∧ (I 79 t = 0 ∨ I 79 t = 1 ∨ (100 ≤ I 79 t ∧ I 79 t ≤ 203)) ∧ I x 9 = I 81 t ∧ 0 ≤ I 81 t ∧ I 81 t ≤ 5 ∧ ∀ k : Nat, (k : Int) < I 81 t → 0 ≤ I 82 (5 * t + k) ∧ I 82 (5 * t + k) < 2000) ∧ ∀ s : Nat, s < 1536 → (inSet L (x + 5) s ↔ fitsM I t s = true)
/-- a Rule's cells against the reference's rule r -/
def RuleEq (I : IH) (L : LH) (R : RH) (K : KH) (t r : Nat) : Prop := (131 ≤ t ∧ K.1 t = 4 ∧ R t 7 = some (t + 1) ∧ K.1 (t + 1) = 100 ∧ K.2.1 (t + 1) = 20 ∧ R t 0 = some (rf R t 0)) ∧ (I t 1 = I 83 r ∧ 1 ≤ I 83 r ∧ I 83 r ≤ 5) ∧ (I t 2 = I 84 r ∧ 0 ≤ I 84 r ∧ I 84 r ≤ 5 ∧ (4 ≤ I 83 r ↔ I 84 r = 5)) ∧ (I t 3 = I 85 r ∧ 0 ≤ I 85 r ∧ I 85 r ≤ 9) ∧ (I t 4 = I 86 r ∧ 0 ≤ I 86 r ∧ I 86 r ≤ 3999) ∧ (I t 5 = I 87 r ∧ 0 ≤ I 87 r ∧ I 87 r ≤ 3999) ∧ (I t 6 = I 90 r ∧ 0 ≤ I 90 r ∧ I 90 r ≤ 20 ∧ (I 83 r ≠ 2 → I 90 r = 0)) ∧ (I t 8 = I 91 r ∧ 0 ≤ I 91 r ∧ I 91 r ≤ I 90 r) ∧ (I t 9 = I 88 r ∧ -1 ≤ I 88 r ∧ I 88 r ≤ 3999) ∧ (I 88 r ≠ -1 → I t 10 = I 89 r) ∧ (∀ i : Nat, (i : Int) < I 91 r → I (t + 1) i = I 92 (20 * r + i)) ∧ TextEq I L R K (rf R t 0) r
/-- the draft: the class's Text that is read into -/
def DraftAt (R : RH) (K : KH) (d : Nat) : Prop := K.1 d = 9 ∧ R d 0 = some 1 ∧ R d 1 = some (d + 1) ∧ R d 2 = some (d + 2) ∧ R d 3 = some (d + 3) ∧ R d 4 = some (d + 4) ∧ K.1 (d + 1) = 100 ∧ K.2.1 (d + 1) = 5 ∧ K.1 (d + 2) = 100 ∧ K.2.1 (d + 2) = 5 ∧ K.1 (d + 3) = 101 ∧ K.2.1 (d + 3) = 5 ∧ K.1 (d + 4) = 7 ∧ R (d + 4) 0 = some (d + 5) ∧ K.1 (d + 5) = 102 ∧ K.2.1 (d + 5) = 24 ∧ 71 ≤ d ∧ d + 6 ≤ K.2.2.1 ∧ (d = 71 ∨ 131 ≤ d)
def InvR (I : IH) (L : LH) (R : RH) (K : KH) : Prop := I 2 4 = I 77 7 ∧ 0 ≤ I 77 7 ∧ I 77 7 ≤ 80 ∧ (∀ r : Nat, (r : Int) < I 77 7 → R 3 r = some (rf R 3 r) ∧ RuleEq I L R K (rf R 3 r) r) ∧ (∀ r s : Nat, (r : Int) < I 77 7 → (s : Int) < I 77 7 → rf R 3 r = rf R 3 s → r = s) ∧ (∀ r : Nat, (r : Int) < I 77 7 → rf R (rf R 3 r) 0 + 6 ≤ rf R 0 10 ∧ rf R 3 r + 2 ≤ rf R 0 10) ∧ (∀ r : Nat, r < 80 → I 77 7 ≤ (r : Int) → I 91 r = 0)
def InvW (I : IH) (L : LH) (R : RH) (K : KH) : Prop := (∀ l : Nat, l < 5 → I 39 l = I 111 l ∧ 0 ≤ I 111 l ∧ I 111 l ≤ 3) ∧ (∀ l w : Nat, l < 5 → (w : Int) < I 111 l → R 37 (3 * l + w) = some (rf R 37 (3 * l + w)) ∧ TextEq I L R K (rf R 37 (3 * l + w)) (80 + 3 * l + w) ∧ (I 38 (3 * l + w) = I 112 (3 * l + w) ∧ 0 ≤ I 112 (3 * l + w) ∧ I 112 (3 * l + w) ≤ 9) ∧ rf R 37 (3 * l + w) + 6 ≤ rf R 0 10)
/-- all of it, after n calls -/
def Inv (n : Nat) (I : IH) (L : LH) (R : RH) (K : KH) : Prop := Lay R K ∧ (R 0 10 = some (rf R 0 10) ∧ DraftAt R K (rf R 0 10)) ∧ InvS I ∧ InvD I ∧ InvE I ∧ InvC I ∧ InvP I ∧ InvT I ∧ InvL I ∧ InvA I ∧ InvX I ∧ InvR I L R K ∧ InvW I L R K ∧ K.2.2.1 ≤ 131 + 8 * n ∧ K.2.2.2 ≤ 19600 + 100 * n
def Fin (n : Nat) : Option AV → AQ := fun rv rv2 I L R K => ∃ v : Int, rv = some (aI v) ∧ rv2 = some (aI v) ∧ Inv n I L R K
theorem fin_of {n : Nat} {I : IH} {L : LH} {R : RH} {K : KH} {x y : Int} (hv : x = y) (hI : Inv n I L R K) : Fin n (some (aI x)) (some (aI y)) I L R K := ⟨x, rfl, by rw [hv], hI⟩
theorem fin_b {n : Nat} {I : IH} {L : LH} {R : RH} {K : KH} {x y : Int} (hI : Inv n I L R K) (hv : x = y) : Fin n (some (aI x)) (some (aI y)) I L R K := ⟨x, rfl, by rw [hv], hI⟩
theorem inv_up {n : Nat} {I : IH} {L : LH} {R : RH} {K : KH} (h : Inv n I L R K) : Inv (n + 1) I L R K := by
  obtain ⟨h1, h2, h3, h4, h5, h6, h7, h8, h9, h10, h11, h12, h13, h14, h15⟩ := h
  exact ⟨h1, h2, h3, h4, h5, h6, h7, h8, h9, h10, h11, h12, h13, by omega, by omega⟩
theorem TextEq.fr {I I1 : IH} {L L1 : LH} {R R1 : RH} {K K1 : KH} {x t : Nat} (h : TextEq I L R K x t) (hk : (x = 71 ∨ 131 ≤ x) ∧ K1.1 x = 9 ∧ R1 x 4 = some (x + 4) ∧ K1.1 (x + 4) = 7 ∧ R1 (x + 4) 0 = some (x + 5) ∧ K1.1 (x + 5) = 102 ∧ K1.2.1 (x + 5) = 24) (e8 : I1 x 8 = I x 8) (e9 : I1 x 9 = I x 9) (e79 : I1 79 t = I 79 t) (e80 : I1 80 t = I 80 t) (e81 : I1 81 t = I 81 t) (e82 : ∀ k, k < 5 → I1 82 (5 * t + k) = I 82 (5 * t + k)) (el : ∀ j, L1 (x + 5) j = L (x + 5) j) : TextEq I1 L1 R1 K1 x t := by
  refine ⟨hk, ?_, ?_⟩
  · rw [e8, e9, e79, e81]; exact ⟨h.2.1.1, h.2.1.2.1, h.2.1.2.2.1, h.2.1.2.2.2.1, h.2.1.2.2.2.2.1, fun k hk => by rw [e82 k (by have := h.2.1.2.2.2.2.1; omega)]; exact h.2.1.2.2.2.2.2 k hk⟩
  · intro s hs
    have h1 := h.2.2 s hs
    have e : fitsM I1 t s = fitsM I t s := by
      unfold fitsM
      rw [e80, e81]
      exact fitsB_c (fun k hk => e82 k (by have := h.2.1.2.2.2.2.1; omega))
    unfold inSet at h1 ⊢
    rw [e, el]
    exact h1
theorem RuleEq.fr {I I1 : IH} {L L1 : LH} {R R1 : RH} {K K1 : KH} {t r : Nat} (h : RuleEq I L R K t r) (hk : 131 ≤ t ∧ K1.1 t = 4 ∧ R1 t 7 = some (t + 1) ∧ K1.1 (t + 1) = 100 ∧ K1.2.1 (t + 1) = 20 ∧ R1 t 0 = some (rf R1 t 0)) (ex : rf R1 t 0 = rf R t 0) (e1 : ∀ j, I1 t j = I t j) (e2 : ∀ j, I1 (t + 1) j = I (t + 1) j) (e3 : ∀ a, 83 ≤ a → a ≤ 91 → I1 a r = I a r) (e4 : ∀ i, i < 20 → I1 92 (20 * r + i) = I 92 (20 * r + i)) (ht : TextEq I1 L1 R1 K1 (rf R t 0) r) : RuleEq I1 L1 R1 K1 t r := by
  obtain ⟨h1, h2, h3, h4, h5, h6, h7, h8, h9, h10, h11, h12⟩ := h
  unfold RuleEq
  rw [ex, e1 1, e1 2, e1 3, e1 4, e1 5, e1 6, e1 8, e1 9, e1 10, e3 83 (by omega) (by omega), e3 84 (by omega) (by omega), e3 85 (by omega) (by omega), e3 86 (by omega) (by omega), e3 87 (by omega) (by omega), e3 88 (by omega) (by omega), e3 89 (by omega) (by omega), e3 90 (by omega) (by omega), e3 91 (by omega) (by omega)]
  exact ⟨ex ▸ hk, h2, h3, h4, h5, h6, h7, h8, h9, h10, fun i hi => by rw [e2, e4 i (by omega)]; exact h11 i hi, ht⟩
/-- what no answer of a later call looks at; d: the draft -/
def Sc (d a j : Nat) : Prop := (5 ≤ a ∧ a ≤ 12) ∨ a = 26 ∨ (a = 22 ∧ j = 4) ∨ (40 ≤ a ∧ a ≤ 44) ∨ (a = 36 ∧ j = 8) ∨ a = 61 ∨ (122 ≤ a ∧ a ≤ 130) ∨ (a = 77 ∧ (j = 55 ∨ j = 56 ∨ j = 58 ∨ j = 68)) ∨ (d ≤ a ∧ a ≤ d + 3) ∨ (79 ≤ a ∧ a ≤ 81 ∧ j = 95) ∨ (a = 82 ∧ 475 ≤ j)
/-- where InvR, InvW look -/
def pR (d a j : Nat) : Prop := (a = 2 ∧ j = 4) ∨ (a = 77 ∧ j = 7) ∨ (79 ≤ a ∧ a ≤ 81 ∧ j < 95) ∨ (a = 82 ∧ j < 475) ∨ (83 ≤ a ∧ a ≤ 92) ∨ ((a = 71 ∨ 131 ≤ a) ∧ (a < d ∨ d + 3 < a))
def pW (d a j : Nat) : Prop := a = 38 ∨ a = 39 ∨ a = 111 ∨ a = 112 ∨ (79 ≤ a ∧ a ≤ 81 ∧ j < 95) ∨ (a = 82 ∧ j < 475) ∨ ((a = 71 ∨ 131 ≤ a) ∧ (a < d ∨ d + 3 < a))
theorem invR_a {I I1 : IH} {L L1 : LH} {R : RH} {K : KH} (hI : InvR I L R K) (h : Ag (pR (rf R 0 10)) I I1) (hl : ∀ x, (x = 71 ∨ 131 ≤ x) → x + 6 ≤ rf R 0 10 → ∀ j, L1 (x + 5) j = L (x + 5) j) : InvR I1 L1 R K := by
  obtain ⟨h1, h2, h3, h4, h5, h6, h7⟩ := hI
  have e7 : I1 77 7 = I 77 7 := h _ _ (by unfold pR; omega)
  have e2 : I1 2 4 = I 2 4 := h _ _ (by unfold pR; omega)
  unfold InvR
  rw [e7, e2]
  refine ⟨h1, h2, h3, fun r hr => ?_, h5, h6, fun r h8 h9 => ?_⟩
  · obtain ⟨g1, g2⟩ := h4 r hr
    have g3 := h6 r hr
    have g4 := g2.1
    have g6 := g4.1
    have g5 := g2.2.2.2.2.2.2.2.2.2.2.2
    have g7 := g5.1.1
    refine ⟨g1, g2.fr g4 rfl (fun j => h _ _ ?_) (fun j => h _ _ ?_) (fun a ha hb => h _ _ ?_) (fun i hi => h _ _ ?_) (g5.fr g5.1 (h _ _ ?_) (h _ _ ?_) (h _ _ ?_) (h _ _ ?_) (h _ _ ?_) (fun k hk => h _ _ ?_) (fun j => hl _ g7 g3.1 j))⟩
    all_goals (unfold pR; omega)
  · rw [h _ _ (by unfold pR; omega)]; exact h7 r h8 h9
theorem invW_a {I I1 : IH} {L L1 : LH} {R : RH} {K : KH} (hI : InvW I L R K) (h : Ag (pW (rf R 0 10)) I I1) (hl : ∀ x, (x = 71 ∨ 131 ≤ x) → x + 6 ≤ rf R 0 10 → ∀ j, L1 (x + 5) j = L (x + 5) j) : InvW I1 L1 R K := by
  obtain ⟨h1, h2⟩ := hI
  have e1 : ∀ l, I1 111 l = I 111 l := fun l => h _ _ (by unfold pW; omega)
  have e2 : ∀ l, I1 39 l = I 39 l := fun l => h _ _ (by unfold pW; omega)
  have e3 : ∀ l, I1 38 l = I 38 l := fun l => h _ _ (by unfold pW; omega)
  have e4 : ∀ l, I1 112 l = I 112 l := fun l => h _ _ (by unfold pW; omega)
  unfold InvW
  simp only [e1, e2, e3, e4]
  refine ⟨h1, fun l w hl5 hw => ?_⟩
  obtain ⟨g1, g5, g3, g4⟩ := h2 l w hl5 hw
  have g6 := (h1 l hl5).2.2
  have g7 := g5.1.1
  refine ⟨g1, g5.fr g5.1 (h _ _ ?_) (h _ _ ?_) (h _ _ ?_) (h _ _ ?_) (h _ _ ?_) (fun k hk => h _ _ ?_) (fun j => hl _ g7 g4 j), g3, g4⟩
  all_goals (unfold pW; omega)
theorem inv_sc {n : Nat} {I I1 : IH} {L L1 : LH} {R : RH} {K : KH} (hI : Inv n I L R K) (h : ∀ a j, ¬ Sc (rf R 0 10) a j → I1 a j = I a j) (hl : ∀ a j, a ≠ 70 → a ≠ rf R 0 10 + 5 → L1 a j = L a j) : Inv n I1 L1 R K := by
  obtain ⟨h1, h2, h3, h4, h5, h6, h7, h8, h9, h10, h11, h12, h13, h14, h15⟩ := hI
  have hd : rf R 0 10 = 71 ∨ 131 ≤ rf R 0 10 := h2.2.2.2.2.2.2.2.2.2.2.2.2.2.2.2.2.2.2.2
  refine ⟨h1, h2, invS_a h3 fun a j q => h a j ?_, invD_a h4 fun a j q => h a j ?_, invE_a h5 fun a j q => h a j ?_, invC_a h6 fun a j q => h a j ?_, invP_a h7 fun a j q => h a j ?_, invT_a h8 fun a j q => h a j ?_, invL_a h9 fun a j q => h a j ?_, invA_a h10 fun a j q => h a j ?_, invX_a h11 fun a j q => h a j ?_, invR_a h12 (fun a j q => h a j ?_) (fun x hx hx6 j => hl _ _ ?_ ?_), invW_a h13 (fun a j q => h a j ?_) (fun x hx hx6 j => hl _ _ ?_ ?_), h14, h15⟩
  · unfold pS at q; unfold Sc; omega
  · unfold pD at q; unfold Sc; omega
  · unfold pE at q; unfold Sc; omega
  · unfold pC at q; unfold Sc; omega
  · unfold pP at q; unfold Sc; omega
  · unfold pT at q; unfold Sc; omega
  · unfold pL at q; unfold Sc; omega
  · unfold pA at q; unfold Sc; omega
  · unfold pX at q; unfold Sc; omega
  · unfold pR at q; unfold Sc; omega
  · omega
  · omega
  · unfold pW at q; unfold Sc; omega
  · omega
  · omega
