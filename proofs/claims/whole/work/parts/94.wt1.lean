/-! waits, taught: the table of what still waits -/
theorem tb_and : ∀ s : Nat, s < 256 → ∀ d : Nat, d < 8 → iand (ishr (s : Int) (d : Int)) 1 = ((s / 2 ^ d % 2 : Nat) : Int) := by decide +kernel
theorem tb_or : ∀ s : Nat, s < 256 → ∀ d : Nat, d < 8 → s / 2 ^ d % 2 = 0 → ior (s : Int) (ishl 1 (d : Int)) = ((s + 2 ^ d : Nat) : Int) := by decide +kernel
theorem tb_shl : ∀ n : Nat, n < 9 → ishl 1 (n : Int) = ((2 ^ n : Nat) : Int) := by decide +kernel
theorem tb_lt : ∀ n, n < 9 → ∀ s, s < 2 ^ n → ∀ d, d < n → s / 2 ^ d % 2 = 0 → s + 2 ^ d < 2 ^ n := by decide +kernel
theorem tb_ex : ∀ n, n < 9 → ∀ s, s < 2 ^ n - 1 → ¬ ∀ d, d < n → s / 2 ^ d % 2 = 1 := by decide +kernel
theorem tb_pc : ∀ s, s < 256 → ∀ d, d < 8 → s / 2 ^ d % 2 = 0 → pcN 8 (s + 2 ^ d) = pcN 8 s + 1 := by decide +kernel
theorem tb_pca : ∀ n, n < 9 → pcN 8 (2 ^ n - 1) = n := by decide +kernel
theorem tb_pc8 : ∀ s, s < 256 → pcN 8 s ≤ 8 := by decide +kernel
theorem tb_z : ∀ n, n < 9 → ∀ s, s < 2 ^ n → ∀ d, d < 8 → n ≤ d → s / 2 ^ d % 2 = 0 := by decide +kernel
theorem tb_256 : ∀ n, n < 9 → 1 ≤ 2 ^ n ∧ 2 ^ n ≤ 256 := by decide +kernel
theorem tb_d : ∀ d, d < 8 → 1 ≤ 2 ^ d ∧ 2 ^ d ≤ 128 := by decide +kernel
/-- what the two keep alike of lessons, n districts -/
def LsOK (I : IH) (n : Nat) : Prop := n < 9 ∧ (∀ j, j < 8 → I 58 j = I 115 j ∧ 1 ≤ I 115 j ∧ I 115 j ≤ 12 ∧ I 59 j = I 116 j ∧ 0 ≤ I 116 j ∧ I 116 j ≤ 99 ∧ I 60 j = I 117 j ∧ -1 ≤ I 117 j ∧ I 117 j ≤ 7 ∧ I 117 j < (n : Int)) ∧ I 77 18 = (n : Int) ∧ ∃ ρ : Nat → Nat, ∀ d, d < 8 → I 117 d = -1 ∨ ρ (I 117 d).toNat < ρ d
abbrev mayD (I : IH) (s d : Nat) : Prop := s / 2 ^ d % 2 = 0 ∧ (I 117 d = -1 ∨ s / 2 ^ (I 117 d).toNat % 2 = 1)
def timD (I : IH) (s : Nat) : Int := sumTo (fun j => if s / 2 ^ j % 2 = 1 then I 115 j else 0) 8
def candD (I : IH) (A : Nat → Int) (s d : Nat) : Int := (timD I s + I 115 d) * I 116 d + A (s + 2 ^ d)
def minD (I : IH) (A : Nat → Int) (s : Nat) (z : Int) : Nat → Int
  | 0 => z
  | d + 1 => if mayD I s d then min (minD I A s z d) (candD I A s d) else minD I A s z d
/-- the table f is right from m on -/
def TabF (I : IH) (n : Nat) (z : Int) (m : Nat) (f : Nat → Int) : Prop := f (2 ^ n - 1) = 0 ∧ ∀ s, m ≤ s → s < 2 ^ n - 1 → f s = minD I f s z n
theorem minD_c {I : IH} {A B : Nat → Int} {s : Nat} {z : Int} (h : ∀ t, s < t → A t = B t) : ∀ k, minD I A s z k = minD I B s z k := by
  intro k
  induction k with
  | zero => rfl
  | succ k ih =>
    rw [minD, minD, ih, candD, candD, h (s + 2 ^ k) (by have := Nat.two_pow_pos k; omega)]
theorem may_ex {I : IH} {n s : Nat} (h : LsOK I n) (hs : s < 2 ^ n - 1) : ∃ d, d < n ∧ mayD I s d := by
  obtain ⟨h9, hb, -, ρ, hρ⟩ := h
  have key : ∀ r d, ρ d ≤ r → d < n → s / 2 ^ d % 2 = 0 → ∃ d, d < n ∧ mayD I s d := by
    intro r
    induction r with
    | zero =>
      intro d hr hd h0
      have := hρ d (by omega)
      exact ⟨d, hd, h0, .inl (by omega)⟩
    | succ r ih =>
      intro d hr hd h0
      by_cases q : I 117 d = -1
      · exact ⟨d, hd, h0, .inl q⟩
      · by_cases q2 : s / 2 ^ (I 117 d).toNat % 2 = 1
        · exact ⟨d, hd, h0, .inr q2⟩
        · have := hρ d (by omega)
          have := hb d (by omega)
          exact ih (I 117 d).toNat (by omega) (by omega) (by omega)
  have hne := tb_ex n h9 s hs
  have : ∃ d, d < n ∧ s / 2 ^ d % 2 = 0 := by
    apply Classical.byContradiction
    intro hc
    refine hne (fun d hd => ?_)
    have : ¬ (s / 2 ^ d % 2 = 0) := fun q => hc ⟨d, hd, q⟩
    omega
  obtain ⟨d, hd, h0⟩ := this
  exact key (ρ d) d (Nat.le_refl _) hd h0
theorem timD_b {I : IH} {n s : Nat} (h : LsOK I n) : 0 ≤ timD I s ∧ timD I s ≤ 96 := by
  have key : ∀ m, m ≤ 8 → 0 ≤ sumTo (fun j => if s / 2 ^ j % 2 = 1 then I 115 j else 0) m ∧ sumTo (fun j => if s / 2 ^ j % 2 = 1 then I 115 j else 0) m ≤ 12 * m := by
    intro m
    induction m with
    | zero => intro _; exact ⟨Int.le_refl _, Int.le_refl _⟩
    | succ m ih =>
      intro hm
      have h1 := ih (by omega)
      have h2 := h.2.1 m (by omega)
      rw [sumTo_succ]
      show 0 ≤ _ + (if s / 2 ^ m % 2 = 1 then I 115 m else 0) ∧ _ + (if s / 2 ^ m % 2 = 1 then I 115 m else 0) ≤ _
      split <;> omega
  exact key 8 (by omega)
theorem cand_b {I : IH} {n s d : Nat} {A : Nat → Int} (h : LsOK I n) (hd : d < 8) : A (s + 2 ^ d) ≤ candD I A s d ∧ candD I A s d ≤ A (s + 2 ^ d) + 10692 ∧ 0 ≤ (timD I s + I 115 d) * I 116 d ∧ (timD I s + I 115 d) * I 116 d ≤ 10692 := by
  have h1 := timD_b (s := s) h
  have h2 := h.2.1 d hd
  have g1 : 0 ≤ (timD I s + I 115 d) * I 116 d := Int.mul_nonneg (by omega) (by omega)
  have g2 : (timD I s + I 115 d) * I 116 d ≤ 108 * 99 := Int.mul_le_mul (by omega) (by omega) (by omega) (by omega)
  unfold candD
  omega
theorem minD_le {I : IH} {A : Nat → Int} {s : Nat} {z : Int} : ∀ k, minD I A s z k ≤ z ∧ ∀ d, d < k → mayD I s d → minD I A s z k ≤ candD I A s d := by
  intro k
  induction k with
  | zero => exact ⟨Int.le_refl _, fun d hd => by omega⟩
  | succ k ih =>
    rw [minD]
    by_cases q : mayD I s k
    · rw [if_pos q]
      refine ⟨by omega, fun d hd hm => ?_⟩
      by_cases e : d = k
      · subst e; omega
      · have := ih.2 d (by omega) hm; omega
    · rw [if_neg q]
      refine ⟨ih.1, fun d hd hm => ?_⟩
      by_cases e : d = k
      · subst e; exact absurd hm q
      · exact ih.2 d (by omega) hm
theorem minD_or {I : IH} {A : Nat → Int} {s : Nat} {z : Int} : ∀ k, minD I A s z k = z ∨ ∃ d, d < k ∧ mayD I s d ∧ candD I A s d = minD I A s z k := by
  intro k
  induction k with
  | zero => exact .inl rfl
  | succ k ih =>
    rw [minD]
    by_cases q : mayD I s k
    · rw [if_pos q]
      by_cases g : candD I A s k ≤ minD I A s z k
      · exact .inr ⟨k, by omega, q, by omega⟩
      · rw [show min (minD I A s z k) (candD I A s k) = minD I A s z k by omega]
        rcases ih with h | ⟨d, hd, hm, he⟩
        · exact .inl h
        · exact .inr ⟨d, by omega, hm, he⟩
    · rw [if_neg q]
      rcases ih with h | ⟨d, hd, hm, he⟩
      · exact .inl h
      · exact .inr ⟨d, by omega, hm, he⟩
theorem may_in {I : IH} {n s d : Nat} (h9 : n < 9) (hs : s < 2 ^ n - 1) (hd : d < n) (hm : mayD I s d) : s < s + 2 ^ d ∧ s + 2 ^ d ≤ 2 ^ n - 1 ∧ s + 2 ^ d < 256 ∧ pcN 8 (s + 2 ^ d) = pcN 8 s + 1 := by
  have h1 := tb_lt n h9 s (by omega) d hd hm.1
  have h2 := tb_d d (by omega)
  have h3 := tb_256 n h9
  exact ⟨by omega, by omega, by omega, tb_pc s (by omega) d (by omega) hm.1⟩
theorem tab_b {I : IH} {n m : Nat} {z : Int} {f : Nat → Int} (h : LsOK I n) (hz : 1000000 ≤ z) (hf : TabF I n z m f) : ∀ k s, 2 ^ n - 1 ≤ s + k → m ≤ s → s ≤ 2 ^ n - 1 → 0 ≤ f s ∧ f s ≤ 10692 * (8 - (pcN 8 s : Int)) := by
  have h9 := h.1
  have h3 := tb_256 n h9
  intro k
  induction k with
  | zero =>
    intro s h1 h2 h4
    have e : s = 2 ^ n - 1 := by omega
    have := tb_pc8 s (by omega)
    rw [e, hf.1]
    rw [e] at this
    omega
  | succ k ih =>
    intro s h1 h2 h4
    by_cases e : s = 2 ^ n - 1
    · have := tb_pc8 s (by omega)
      rw [e, hf.1]
      rw [e] at this
      omega
    · have hs : s < 2 ^ n - 1 := by omega
      have e := hf.2 s h2 hs
      obtain ⟨d, hd, hm⟩ := may_ex h hs
      have g1 := may_in h9 hs hd hm
      have g2 := ih (s + 2 ^ d) (by omega) (by omega) (by omega)
      have g3 := cand_b (A := f) (s := s) (d := d) h (by omega)
      have g4 := (minD_le (I := I) (A := f) (s := s) (z := z) n).2 d hd hm
      rw [g1.2.2.2] at g2
      refine ⟨?_, by omega⟩
      rcases minD_or (I := I) (A := f) (s := s) (z := z) n with q | ⟨c, hc, hcm, hce⟩
      · omega
      · have j1 := may_in h9 hs hc hcm
        have j2 := ih (s + 2 ^ c) (by omega) (by omega) (by omega)
        have j3 := cand_b (A := f) (s := s) (d := c) h (by omega)
        omega
theorem tab_b2 {I : IH} {n m : Nat} {z : Int} {f : Nat → Int} (h : LsOK I n) (hz : 1000000 ≤ z) (hf : TabF I n z m f) {s : Nat} (h2 : m ≤ s) (h4 : s ≤ 2 ^ n - 1) : 0 ≤ f s ∧ f s ≤ 85536 := by
  have := tab_b h hz hf (2 ^ n - 1 - s) s (by omega) h2 h4
  omega
theorem tab_or {I : IH} {n : Nat} {z : Int} {f : Nat → Int} (h : LsOK I n) (hz : 1000000 ≤ z) (hf : TabF I n z 0 f) {s : Nat} (hs : s < 2 ^ n - 1) : ∃ d, d < n ∧ mayD I s d ∧ candD I f s d = f s := by
  have b := tab_b2 h hz hf (Nat.zero_le s) (by omega)
  rw [hf.2 s (by omega) hs] at b ⊢
  rcases minD_or (I := I) (A := f) (s := s) (z := z) n with q | q
  · omega
  · exact q
theorem minD_eq {I : IH} {A B : Nat → Int} {s : Nat} {x y : Int} : ∀ k, (∀ d, d < k → mayD I s d → A (s + 2 ^ d) = B (s + 2 ^ d) ∧ candD I A s d ≤ x ∧ candD I A s d ≤ y) → ((∀ d, d < k → ¬ mayD I s d) ∧ minD I A s x k = x ∧ minD I B s y k = y) ∨ minD I A s x k = minD I B s y k := by
  intro k
  induction k with
  | zero => intro _; exact .inl ⟨fun d hd => by omega, rfl, rfl⟩
  | succ k ih =>
    intro hc
    rw [minD, minD]
    have h1 := ih (fun d hd => hc d (by omega))
    by_cases q : mayD I s k
    · rw [if_pos q, if_pos q]
      have h2 := hc k (by omega) q
      have h3 : candD I A s k = candD I B s k := by unfold candD; rw [h2.1]
      rcases h1 with ⟨_, e1, e2⟩ | e
      · right; omega
      · right; omega
    · rw [if_neg q, if_neg q]
      rcases h1 with ⟨e0, e1, e2⟩ | e
      · exact .inl ⟨fun d hd hm => by by_cases e : d = k; subst e; exact q hm; exact e0 d (by omega) hm, e1, e2⟩
      · exact .inr e
theorem tab_eq {I : IH} {n : Nat} {x y : Int} {f g : Nat → Int} (h : LsOK I n) (hx : 1000000 ≤ x) (hy : 1000000 ≤ y) (hf : TabF I n x 0 f) (hg : TabF I n y 0 g) : ∀ k s, 2 ^ n - 1 ≤ s + k → s ≤ 2 ^ n - 1 → f s = g s := by
  intro k
  induction k with
  | zero =>
    intro s h1 h2
    rw [show s = 2 ^ n - 1 by omega, hf.1, hg.1]
  | succ k ih =>
    intro s h1 h2
    by_cases e : s = 2 ^ n - 1
    · rw [e, hf.1, hg.1]
    · have hs : s < 2 ^ n - 1 := by omega
      rw [hf.2 s (by omega) hs, hg.2 s (by omega) hs]
      rcases minD_eq (I := I) (A := f) (B := g) (s := s) (x := x) (y := y) n (fun d hd hm => by
        have j1 := may_in h.1 hs hd hm
        have j2 := tab_b2 h hx hf (Nat.zero_le (s + 2 ^ d)) (by omega)
        have j3 := cand_b (A := f) (s := s) (d := d) h (by have := h.1; omega)
        exact ⟨ih _ (by omega) (by omega), by omega, by omega⟩) with ⟨e0, _⟩ | e
      · obtain ⟨d, hd, hm⟩ := may_ex h hs
        exact absurd hm (e0 d hd)
      · exact e
/-- the first place from d on, k at most, where p holds -/
def ffB (p : Nat → Bool) : Nat → Nat → Nat
  | 0, d => d
  | k + 1, d => if p d = true then d else ffB p k (d + 1)
theorem ffB_ex {p : Nat → Bool} : ∀ k d, (∃ e, d ≤ e ∧ e < d + k ∧ p e = true) → d ≤ ffB p k d ∧ ffB p k d < d + k ∧ p (ffB p k d) = true ∧ ∀ e, d ≤ e → e < ffB p k d → ¬ p e = true := by
  intro k
  induction k with
  | zero => intro d ⟨e, h1, h2, _⟩; omega
  | succ k ih =>
    intro d ⟨e, h1, h2, h3⟩
    rw [ffB]
    by_cases q : p d = true
    · rw [if_pos q]; exact ⟨Nat.le_refl _, by omega, q, fun e h1 h2 => by omega⟩
    · rw [if_neg q]
      have hne : e ≠ d := fun q2 => by subst q2; exact q h3
      have := ih (d + 1) ⟨e, by omega, by omega, h3⟩
      refine ⟨by omega, by omega, this.2.2.1, fun e h1 h2 => ?_⟩
      by_cases q2 : e = d
      · subst q2; exact q
      · exact this.2.2.2 e (by omega) h2
def nxD (I : IH) (n : Nat) (f : Nat → Int) (s : Nat) : Nat := ffB (fun d => decide (mayD I s d ∧ candD I f s d = f s)) n 0
theorem nxD_p {I : IH} {n : Nat} {z : Int} {f : Nat → Int} (h : LsOK I n) (hz : 1000000 ≤ z) (hf : TabF I n z 0 f) {s : Nat} (hs : s < 2 ^ n - 1) : nxD I n f s < n ∧ (mayD I s (nxD I n f s) ∧ candD I f s (nxD I n f s) = f s) ∧ ∀ e, e < nxD I n f s → ¬ (mayD I s e ∧ candD I f s e = f s) := by
  obtain ⟨d, hd, hm, hc⟩ := tab_or h hz hf hs
  have := ffB_ex (p := fun d => decide (mayD I s d ∧ candD I f s d = f s)) n 0 ⟨d, by omega, by omega, by simp only [decide_eq_true_eq]; exact ⟨hm, hc⟩⟩
  refine ⟨by have := this.2.1; unfold nxD; omega, by have := this.2.2.1; unfold nxD; simpa only [decide_eq_true_eq] using this, fun e he => by have := this.2.2.2 e (by omega) he; simpa only [decide_eq_true_eq] using this⟩
/-- the set of those done ahead of place i -/
def rowS (I : IH) (n : Nat) (f : Nat → Int) : Nat → Nat
  | 0 => 0
  | i + 1 => rowS I n f i + 2 ^ nxD I n f (rowS I n f i)
theorem rowS_p {I : IH} {n : Nat} {z : Int} {f : Nat → Int} (h : LsOK I n) (hz : 1000000 ≤ z) (hf : TabF I n z 0 f) : ∀ i, i ≤ n → rowS I n f i ≤ 2 ^ n - 1 ∧ pcN 8 (rowS I n f i) = i ∧ (i < n → rowS I n f i < 2 ^ n - 1) := by
  have h9 := h.1
  have key : ∀ i, i ≤ n → rowS I n f i ≤ 2 ^ n - 1 ∧ pcN 8 (rowS I n f i) = i := by
    intro i
    induction i with
    | zero => intro _; exact ⟨Nat.zero_le _, by show pcN 8 0 = 0; decide⟩
    | succ i ih =>
      intro hi
      have h1 := ih (by omega)
      have h2 : rowS I n f i < 2 ^ n - 1 := by
        by_cases q : rowS I n f i = 2 ^ n - 1
        · have := tb_pca n h9
          rw [← q] at this
          omega
        · omega
      have h3 := nxD_p h hz hf h2
      have h4 := may_in h9 h2 h3.1 h3.2.1.1
      rw [rowS]
      exact ⟨h4.2.1, by rw [h4.2.2.2, h1.2]⟩
  intro i hi
  have h1 := key i hi
  refine ⟨h1.1, h1.2, fun hn => ?_⟩
  by_cases q : rowS I n f i = 2 ^ n - 1
  · have := tb_pca n h9
    rw [← q] at this
    omega
  · omega
theorem nxD_eq {I : IH} {n : Nat} {x y : Int} {f g : Nat → Int} (h : LsOK I n) (hx : 1000000 ≤ x) (hy : 1000000 ≤ y) (hf : TabF I n x 0 f) (hg : TabF I n y 0 g) {s : Nat} (hs : s < 2 ^ n - 1) : nxD I n f s = nxD I n g s := by
  have e := tab_eq h hx hy hf hg
  have p1 := nxD_p h hx hf hs
  have p2 := nxD_p h hy hg hs
  have c : ∀ d, d < n → mayD I s d → candD I f s d = candD I g s d := fun d hd hm => by
    have := may_in h.1 hs hd hm
    unfold candD
    rw [e (2 ^ n - 1) (s + 2 ^ d) (by omega) (by omega)]
  have es : f s = g s := e (2 ^ n - 1) s (by omega) (by omega)
  by_cases q1 : nxD I n f s < nxD I n g s
  · exact absurd ⟨p1.2.1.1, by rw [← c _ p1.1 p1.2.1.1, p1.2.1.2, es]⟩ (p2.2.2 _ q1)
  · by_cases q2 : nxD I n g s < nxD I n f s
    · exact absurd ⟨p2.2.1.1, by rw [c _ p2.1 p2.2.1.1, p2.2.1.2, es]⟩ (p1.2.2 _ q2)
    · omega
theorem rowS_eq {I : IH} {n : Nat} {x y : Int} {f g : Nat → Int} (h : LsOK I n) (hx : 1000000 ≤ x) (hy : 1000000 ≤ y) (hf : TabF I n x 0 f) (hg : TabF I n y 0 g) : ∀ i, i ≤ n → rowS I n f i = rowS I n g i := by
  intro i
  induction i with
  | zero => intro _; rfl
  | succ i ih =>
    intro hi
    have h1 := ih (by omega)
    have h2 := (rowS_p h hx hf i (by omega)).2.2 (by omega)
    rw [rowS, rowS, ← h1, nxD_eq h hx hy hf hg h2]
def tabF (I : IH) (a : Nat) (f : Nat → Int) : IH := fun b j => if b = a then f j else I b j
def updF (f : Nat → Int) (x : Nat) (v : Int) : Nat → Int := fun j => if j = x then v else f j
theorem tabF_set {I : IH} {a x : Nat} {f : Nat → Int} {v : Int} : setF (tabF I a f) a x v = tabF I a (updF f x v) := by
  funext b j
  unfold setF tabF updF
  by_cases q : b = a
  · by_cases q2 : j = x
    · rw [if_pos ⟨q, q2⟩, if_pos q, if_pos q2]
    · rw [if_neg (fun h => q2 h.2), if_pos q, if_pos q, if_neg q2]
  · rw [if_neg (fun h => q h.1), if_neg q, if_neg q]
theorem tabF_id {I : IH} {a : Nat} : tabF I a (fun j => I a j) = I := by
  funext b j
  unfold tabF
  by_cases q : b = a
  · rw [if_pos q, q]
  · rw [if_neg q]
theorem TabF.upd {I : IH} {n m : Nat} {z v : Int} {f : Nat → Int} (hf : TabF I n z (m + 1) f) (hm : m < 2 ^ n - 1) (hv : v = minD I f m z n) : TabF I n z m (updF f m v) := by
  have e : ∀ t, t ≠ m → updF f m v t = f t := fun t ht => by unfold updF; rw [if_neg ht]
  have em : updF f m v m = v := by unfold updF; rw [if_pos rfl]
  refine ⟨by rw [e _ (by omega)]; exact hf.1, fun s h1 h2 => ?_⟩
  by_cases q : s = m
  · subst q
    rw [em]
    refine hv.trans (minD_c ?_ n)
    intro t ht
    exact (e t (by omega)).symm
  · rw [e s q, hf.2 s (by omega) h2]
    refine minD_c ?_ n
    intro t ht
    exact (e t (by omega)).symm
/-- two heaps with the same lessons -/
def SameL (J I : IH) : Prop := ∀ j, J 115 j = I 115 j ∧ J 116 j = I 116 j ∧ J 117 j = I 117 j
theorem mayD_i {J I : IH} (h : SameL J I) {s d : Nat} : mayD J s d ↔ mayD I s d := by
  unfold mayD
  rw [(h d).2.2]
theorem candD_i {J I : IH} (h : SameL J I) {A : Nat → Int} {s d : Nat} : candD J A s d = candD I A s d := by
  have e : timD J s = timD I s := sumTo_congr 8 (fun j _ => by rw [(h j).1])
  unfold candD
  rw [e, (h d).1, (h d).2.1]
theorem minD_i {J I : IH} (h : SameL J I) {A : Nat → Int} {s : Nat} {z : Int} : ∀ k, minD J A s z k = minD I A s z k := by
  intro k
  induction k with
  | zero => rfl
  | succ k ih =>
    rw [minD, minD, ih, candD_i h]
    by_cases q : mayD I s k
    · rw [if_pos q, if_pos ((mayD_i h).2 q)]
    · rw [if_neg q, if_neg (fun g => q ((mayD_i h).1 g))]
theorem TabF.i {J I : IH} (h : SameL J I) {n m : Nat} {z : Int} {f : Nat → Int} (hf : TabF J n z m f) : TabF I n z m f :=
  ⟨hf.1, fun s h1 h2 => by rw [hf.2 s h1 h2]; exact minD_i h n⟩
theorem SameL.symm {J I : IH} (h : SameL J I) : SameL I J := fun j => ⟨(h j).1.symm, (h j).2.1.symm, (h j).2.2.symm⟩
theorem nxD_i {J I : IH} (h : SameL J I) {n s : Nat} {f : Nat → Int} : nxD J n f s = nxD I n f s := by
  have e : (fun d => decide (mayD J s d ∧ candD J f s d = f s)) = (fun d => decide (mayD I s d ∧ candD I f s d = f s)) := by
    funext d
    rw [candD_i h]
    by_cases q : mayD I s d ∧ candD I f s d = f s
    · rw [decide_eq_true q, decide_eq_true ⟨(mayD_i h).2 q.1, q.2⟩]
    · rw [decide_eq_false q, decide_eq_false (fun g => q ⟨(mayD_i h).1 g.1, g.2⟩)]
  unfold nxD
  rw [e]
theorem rowS_i {J I : IH} (h : SameL J I) {n : Nat} {f : Nat → Int} : ∀ i, rowS J n f i = rowS I n f i := by
  intro i
  induction i with
  | zero => rfl
  | succ i ih => rw [rowS, rowS, ih, nxD_i h]
theorem sameL61 {I : IH} {f : Nat → Int} : SameL (tabF I 61 f) I := fun _ => ⟨rfl, rfl, rfl⟩
