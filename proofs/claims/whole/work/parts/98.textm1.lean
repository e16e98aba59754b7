/-! moves: the TOP with one rule's text for another -/
theorem jn_or (u r e : Int) : (u / 256 < r + 1 ∧ jn u r e = (r + 1) * 256 + (e + 3)) ∨ (¬ u / 256 < r + 1 ∧ (u / 256 = r + 1 ∧ u % 256 ≠ e + 3) ∧ jn u r e = (r + 1) * 256 + 1) ∨ (¬ u / 256 < r + 1 ∧ ¬ (u / 256 = r + 1 ∧ u % 256 ≠ e + 3) ∧ jn u r e = u) := by
  unfold jn
  by_cases a : u / 256 < r + 1
  · exact .inl ⟨a, if_pos a⟩
  · by_cases b : u / 256 = r + 1 ∧ u % 256 ≠ e + 3
    · exact .inr (.inl ⟨a, b, by rw [if_neg a, if_pos b]⟩)
    · exact .inr (.inr ⟨a, b, by rw [if_neg a, if_neg b]⟩)
theorem jn_gt {u r e : Int} (a : u / 256 < r + 1) : jn u r e = (r + 1) * 256 + (e + 3) := if_pos a
theorem jn_lt {u r e : Int} (a : r + 1 < u / 256) : jn u r e = u := by
  rcases jn_or u r e with h | h | h <;> omega
/-- the same rank: only the end counts -/
def jm (m e : Int) : Int := if m = e then m else 1
theorem jn_at {u r e : Int} (a : u / 256 = r + 1) : jn u r e = (r + 1) * 256 + jm (u % 256) (e + 3) := by
  unfold jm
  rcases jn_or u r e with h | h | h
  · omega
  · rw [if_neg h.2.1.2]; omega
  · rw [if_pos (by omega)]; omega
theorem jm_rng {m e : Int} (h : 0 ≤ m ∧ m < 256) : 0 ≤ jm m e ∧ jm m e < 256 := by
  unfold jm; split <;> omega
theorem jm_comm {m e1 e2 : Int} (h1 : 3 ≤ e1) (h2 : 3 ≤ e2) : jm (jm m e1) e2 = jm (jm m e2) e1 := by
  unfold jm
  by_cases a : m = e1
  · by_cases b : m = e2
    · rw [if_pos a, if_pos b]
      rw [if_pos a]
    · rw [if_pos a, if_neg b, if_neg (by omega)]
  · by_cases b : m = e2
    · rw [if_neg a, if_pos b, if_neg (by omega), if_neg a]
    · rw [if_neg a, if_neg b, if_neg (by omega), if_neg (by omega)]
theorem jm_two {e1 e2 : Int} : jm e1 e2 = jm e2 e1 := by
  unfold jm
  by_cases a : e1 = e2
  · rw [if_pos a, if_pos a.symm, a]
  · rw [if_neg a, if_neg (fun q => a q.symm)]
theorem div_at {a m : Int} (h : 0 ≤ m ∧ m < 256) : (a * 256 + m) / 256 = a ∧ (a * 256 + m) % 256 = m := by omega
theorem jn_c1 {t r1 e1 r2 e2 : Int} (h1 : 0 ≤ e1 ∧ e1 ≤ 203) (h2 : 0 ≤ e2 ∧ e2 ≤ 203) (hr : r1 < r2) : jn (jn t r1 e1) r2 e2 = jn (jn t r2 e2) r1 e1 := by
  have k : r2 + 1 ≤ jn t r2 e2 / 256 := by rcases jn_or t r2 e2 with h | h | h <;> omega
  rw [jn_lt (u := jn t r2 e2) (r := r1) (by omega)]
  rcases jn_or t r1 e1 with h | h | h
  · rw [h.2, jn_gt (by omega), jn_gt (by omega)]
  · rw [h.2.2, jn_gt (by omega), jn_gt (by omega)]
  · rw [h.2.2]
theorem jn_c2 {t r e1 e2 : Int} (h1 : 0 ≤ e1 ∧ e1 ≤ 203) (h2 : 0 ≤ e2 ∧ e2 ≤ 203) : jn (jn t r e1) r e2 = jn (jn t r e2) r e1 := by
  have q : ∀ m, 0 ≤ m ∧ m < 256 → ((r + 1) * 256 + m) / 256 = r + 1 ∧ ((r + 1) * 256 + m) % 256 = m := fun m h => div_at h
  rcases Int.lt_trichotomy (t / 256) (r + 1) with h | h | h
  · rw [jn_gt h, jn_gt h, jn_at (q _ (by omega)).1, jn_at (q _ (by omega)).1, (q _ (by omega)).2, (q _ (by omega)).2, jm_two]
  · have z1 := jm_rng (m := t % 256) (e := e1 + 3) (by omega)
    have z2 := jm_rng (m := t % 256) (e := e2 + 3) (by omega)
    rw [jn_at h, jn_at h, jn_at (q _ z1).1, jn_at (q _ z2).1, (q _ z1).2, (q _ z2).2, jm_comm (by omega) (by omega)]
  · rw [jn_lt h, jn_lt h, jn_lt h]
theorem jn_comm {t r1 e1 r2 e2 : Int} (h1 : 0 ≤ e1 ∧ e1 ≤ 203) (h2 : 0 ≤ e2 ∧ e2 ≤ 203) : jn (jn t r1 e1) r2 e2 = jn (jn t r2 e2) r1 e1 := by
  rcases Int.lt_trichotomy r1 r2 with h | h | h
  · exact jn_c1 h1 h2 h
  · rw [h]; exact jn_c2 h1 h2
  · exact (jn_c1 h2 h1 h).symm
theorem topF_out {p q : Nat → Prop} [DecidablePred p] [DecidablePred q] {r e : Nat → Int} {x : Nat} (hp : p x) : ∀ n, x < n → (∀ i, i < n → (q i ↔ p i ∧ i ≠ x) ∧ 0 ≤ e i ∧ e i ≤ 203) → topF p r e n = jn (topF q r e n) (r x) (e x) := by
  intro n
  induction n with
  | zero => intro h; omega
  | succ n ih =>
    intro hx h
    have hn := h n (by omega)
    by_cases c : x = n
    · subst c
      have hq : ¬ q x := fun g => (hn.1.mp g).2 rfl
      rw [topF_s0 hq, topF_s1 hp]
      rw [topF_congr (p := p) (q := q) (r2 := r) (e2 := e) x (fun i hi => ⟨⟨fun g => (h i (by omega)).1.mpr ⟨g, by omega⟩, fun g => ((h i (by omega)).1.mp g).1⟩, fun _ => ⟨rfl, rfl⟩⟩)]
    · have ih := ih (by omega) (fun i hi => h i (by omega))
      by_cases hpn : p n
      · rw [topF_s1 hpn, topF_s1 (hn.1.mpr ⟨hpn, fun g => c g.symm⟩), ih]
        exact jn_comm (h x (by omega)).2 hn.2
      · rw [topF_s0 hpn, topF_s0 (fun g => hpn (hn.1.mp g).1), ih]
theorem rul_at {N : Nat} {I : IH} {L : LH} {R : RH} {K : KH} (hI : Inv N I L R K) {g b lo hi s a k : Int} (hs : 0 ≤ s ∧ s < 1536) (hg : (0 ≤ g ∧ g ≤ 4 ∧ b = g ∧ lo = 1 ∧ hi = 3) ∨ (g = 5 ∧ b = 5 ∧ lo = 4 ∧ hi = 4) ∨ (g = 6 ∧ b = 5 ∧ lo = 5 ∧ hi = 5)) {i : Nat} (hii : (i : Int) < I 77 7) : (inFo I R (rf R 3 i) a k ↔ inFoM I (i : Int) a k) ∧ (grp I (rf R 3 i) = g ↔ I 84 i = b ∧ (lo ≤ I 83 i ∧ I 83 i ≤ hi)) ∧ (fitP L R (rf R (rf R 3 i) 0) s ↔ fitsM I i s = true) ∧ I (rf R 3 i) 3 = I 85 i ∧ I (rf R (rf R 3 i) 0) 8 = I 79 i := by
  obtain ⟨h1, h2, h3, h4, -⟩ := iR hI
  obtain ⟨g1, g2⟩ := h4 i hii
  obtain ⟨k0, a1, a2, a3, a4, a5, a6, a7, a8, a9, a10, a11⟩ := g2
  have hx := a11.2.2 s.toNat (by omega)
  rw [show ((s.toNat : Nat) : Int) = s by omega] at hx
  refine ⟨?_, ?_, ?_, a3.1, a11.2.1.1⟩
  · have ef : sumTo (fellF I R (rf R 3 i) k) (I 91 i).toNat = sumTo (fellM I (i : Int) k) (I 91 i).toNat := by
      refine sumTo_congr _ (fun j hj => ?_)
      unfold fellF fellM
      rw [rf_eq k0.2.2.1, Int.toNat_natCast, a10 j (by omega)]
    unfold inFo inFoM
    rw [Int.toNat_natCast, a1.1, a4.1, a5.1, a6.1, a7.1, a8.1, ef]
    refine and_congr_right' (and_congr_right' (and_congr_left' ?_))
    by_cases q : I 88 i = -1
    · constructor
      · intro _ q2; exact absurd q q2.1
      · intro _ q2; omega
    · rw [a9 q]
      constructor
      · intro q1 q2; exact q1 ⟨by omega, q2.2.1, q2.2.2⟩
      · intro q1 q2; exact q1 ⟨q, q2.2.1, q2.2.2⟩
  · unfold grp
    rw [a1.1, a2.1]
    split <;> omega
  · unfold fitP
    rw [rf_eq a11.1.2.2.1, rf_eq a11.1.2.2.2.2.1, ← hx]
    exact ⟨fun q => q.2.2, fun q => ⟨hs.1, hs.2, q⟩⟩
/-- the class: a sort whose answer the draft d in rule n moves -/
def movC (I : IH) (L : LH) (R : RH) (d n : Nat) (k s : Int) : Prop := inFo I R (rf R 3 n) k k ∧ addT I L R (rf R (rf R 3 n) 0) (ansT I L R (grp I (rf R 3 n)) s k k (n : Int)) (I (rf R 3 n) 3) s % 256 - 3 ≠ addT I L R d (ansT I L R (grp I (rf R 3 n)) s k k (n : Int)) (I (rf R 3 n) 3) s % 256 - 3
def lowM (I : IH) (n : Nat) : Int := if I 84 n = 5 then I 83 n else 1
def highM (I : IH) (n : Nat) : Int := if I 84 n = 5 then I 83 n else 3
/-- the reference's -/
def movM (I : IH) (n : Nat) (k s : Int) : Prop := tmV I (I 84 n) (lowM I n) (highM I n) s k k (n : Int) (I 77 7).toNat % 256 - 3 ≠ tmV I (I 84 n) (lowM I n) (highM I n) s k k (-1) (I 77 7).toNat % 256 - 3
theorem add_out {I : IH} {L : LH} {R : RH} {x : Nat} {g s k : Int} (hb : ∀ i, i < (I 2 4).toNat → 0 ≤ I (rf R (rf R 3 i) 0) 8 ∧ I (rf R (rf R 3 i) 0) 8 ≤ 203) (hx : x < (I 2 4).toNat) (hp : gP I R k k g x) : ansT I L R g s k k (-1) = addT I L R (rf R (rf R 3 x) 0) (ansT I L R g s k k (x : Int)) (I (rf R 3 x) 3) s := by
  unfold ansT twV addT
  by_cases q : fitP L R (rf R (rf R 3 x) 0) s
  · rw [if_pos q]
    exact topF_out (p := twP (gP I R k k g) L R (-1) s) (q := twP (gP I R k k g) L R (x : Int) s) (r := fun i => I (rf R 3 i) 3) (e := fun i => I (rf R (rf R 3 i) 0) 8) (x := x) ⟨hp, by omega, q⟩ _ hx (fun i hi => ⟨⟨fun z => ⟨⟨z.1, by omega, z.2.2⟩, fun y => z.2.1 (by rw [y])⟩, fun z => ⟨z.1.1, fun y => z.2 (by omega), z.1.2.2⟩⟩, hb i hi⟩)
  · rw [if_neg q]
    refine topF_congr _ (fun i hi => ⟨⟨fun z => ⟨z.1, fun y => ?_, z.2.2⟩, fun z => ⟨z.1, by omega, z.2.2⟩⟩, fun _ => ⟨rfl, rfl⟩⟩)
    have e : i = x := by omega
    subst e
    exact q z.2.2
theorem add_in {I : IH} {L : LH} {R : RH} {x d : Nat} {g s k : Int} (hb : ∀ i, i < (I 2 4).toNat → 0 ≤ I (rf R (rf R 3 i) 0) 8 ∧ I (rf R (rf R 3 i) 0) 8 ≤ 203) (hd : 0 ≤ I d 8 ∧ I d 8 ≤ 203) (hx : x < (I 2 4).toNat) (hp : gP I R k k g x) : topF (fun i => gP I R k k g i ∧ fitP L R (if i = x then d else rf R (rf R 3 i) 0) s) (fun i => I (rf R 3 i) 3) (fun i => I (if i = x then d else rf R (rf R 3 i) 0) 8) (I 2 4).toNat = addT I L R d (ansT I L R g s k k (x : Int)) (I (rf R 3 x) 3) s := by
  have e0 : ansT I L R g s k k (x : Int) = topF (twP (gP I R k k g) L R (x : Int) s) (fun i => I (rf R 3 i) 3) (fun i => I (if i = x then d else rf R (rf R 3 i) 0) 8) (I 2 4).toNat := by
    unfold ansT twV
    refine topF_congr _ (fun i hi => ⟨Iff.rfl, fun z => ⟨rfl, ?_⟩⟩)
    rw [if_neg (fun y => z.2.1 (by rw [y]))]
  rw [e0]
  unfold addT
  by_cases q : fitP L R d s
  · rw [if_pos q]
    have t := topF_out (p := fun i => gP I R k k g i ∧ fitP L R (if i = x then d else rf R (rf R 3 i) 0) s) (q := twP (gP I R k k g) L R (x : Int) s) (r := fun i => I (rf R 3 i) 3) (e := fun i => I (if i = x then d else rf R (rf R 3 i) 0) 8) (x := x) ⟨hp, by rw [if_pos rfl]; exact q⟩ (I 2 4).toNat hx (fun i hi => ⟨⟨fun z => ?_, fun z => ?_⟩, ?_⟩)
    · rw [t, if_pos rfl]
    · have n : i ≠ x := fun y => z.2.1 (by rw [y])
      exact ⟨⟨z.1, by rw [if_neg n]; exact z.2.2⟩, n⟩
    · have f := z.1.2
      rw [if_neg z.2] at f
      exact ⟨z.1.1, fun y => z.2 (by omega), f⟩
    · by_cases y : i = x
      · rw [if_pos y]; exact hd
      · rw [if_neg y]; exact hb i hi
  · rw [if_neg q]
    refine topF_congr _ (fun i hi => ⟨⟨fun z => ?_, fun z => ?_⟩, fun _ => ⟨rfl, rfl⟩⟩)
    · have n : i ≠ x := fun y => by
        have f := z.2
        rw [if_pos y] at f
        exact q f
      have f := z.2
      rw [if_neg n] at f
      exact ⟨z.1, fun y => n (by omega), f⟩
    · have n : i ≠ x := fun y => z.2.1 (by rw [y])
      exact ⟨z.1, by rw [if_neg n]; exact z.2.2⟩
theorem mov_g {N : Nat} {I : IH} {L : LH} {R : RH} {K : KH} (hI : Inv N I L R K) {x : Nat} (hx : (x : Int) < I 77 7) : (0 ≤ grp I (rf R 3 x) ∧ grp I (rf R 3 x) ≤ 4 ∧ I 84 x = grp I (rf R 3 x) ∧ lowM I x = 1 ∧ highM I x = 3) ∨ (grp I (rf R 3 x) = 5 ∧ I 84 x = 5 ∧ lowM I x = 4 ∧ highM I x = 4) ∨ (grp I (rf R 3 x) = 6 ∧ I 84 x = 5 ∧ lowM I x = 5 ∧ highM I x = 5) := by
  obtain ⟨h1, h2, h3, h4, -⟩ := iR hI
  obtain ⟨g1, g2⟩ := h4 x hx
  obtain ⟨k0, a1, a2, -⟩ := g2
  unfold grp lowM highM
  rw [a1.1, a2.1]
  by_cases q : I 83 x = 5
  · rw [if_pos q, if_pos (by omega), if_pos (by omega)]; omega
  · rw [if_neg q]
    by_cases q2 : I 84 x = 5
    · rw [if_pos q2, if_pos q2]; omega
    · rw [if_neg q2, if_neg q2]; omega
theorem mov_new {N : Nat} {I : IH} {L : LH} {R : RH} {K : KH} (hI : Inv N I L R K) {x d : Nat} {g b lo hi s k : Int} (hs : 0 ≤ s ∧ s < 1536) (hg : (0 ≤ g ∧ g ≤ 4 ∧ b = g ∧ lo = 1 ∧ hi = 3) ∨ (g = 5 ∧ b = 5 ∧ lo = 4 ∧ hi = 4) ∨ (g = 6 ∧ b = 5 ∧ lo = 5 ∧ hi = 5)) (tn : TextEq I L R K d 95) : tmV I b lo hi s k k (x : Int) (I 77 7).toNat = topF (fun i => gP I R k k g i ∧ fitP L R (if i = x then d else rf R (rf R 3 i) 0) s) (fun i => I (rf R 3 i) 3) (fun i => I (if i = x then d else rf R (rf R 3 i) 0) 8) (I 2 4).toNat := by
  have h1 := (iR hI).1
  unfold tmV
  rw [h1]
  refine topF_congr _ (fun i hii => ?_)
  have r := rul_at hI (g := g) (b := b) (lo := lo) (hi := hi) (a := k) (k := k) hs hg (i := i) (by omega)
  unfold gP tmP
  rw [r.1, r.2.1]
  by_cases q : i = x
  · have q2 : (i : Int) = (x : Int) := by rw [q]
    have hx := tn.2.2 s.toNat (by omega)
    rw [show ((s.toNat : Nat) : Int) = s by omega] at hx
    have eS : fitP L R d s ↔ fitsM I 95 s = true := by
      unfold fitP
      rw [rf_eq tn.1.2.2.1, rf_eq tn.1.2.2.2.2.1, ← hx]
      exact ⟨fun q => q.2.2, fun q => ⟨hs.1, hs.2, q⟩⟩
    rw [if_pos q, if_pos q2, eS]
    exact ⟨⟨fun z => ⟨⟨z.2.2.1, z.1, z.2.1⟩, z.2.2.2⟩, fun z => ⟨z.1.2.1, z.1.2.2, z.1.1, z.2⟩⟩, fun _ => ⟨r.2.2.2.1.symm, tn.2.1.1.symm⟩⟩
  · have q2 : ¬ (i : Int) = (x : Int) := by omega
    rw [if_neg q, if_neg q2, r.2.2.1]
    exact ⟨⟨fun z => ⟨⟨z.2.2.1, z.1, z.2.1⟩, z.2.2.2⟩, fun z => ⟨z.1.2.1, z.1.2.2, z.1.1, z.2⟩⟩, fun _ => ⟨r.2.2.2.1.symm, r.2.2.2.2.symm⟩⟩
theorem mov_eq {N : Nat} {I : IH} {L : LH} {R : RH} {K : KH} (hI : Inv N I L R K) {x d : Nat} {s k : Int} (hs : 0 ≤ s ∧ s < 1536) (hx : (x : Int) < I 77 7) (tn : TextEq I L R K d 95) : movM I x k s ↔ movC I L R d x k s := by
  have hg := mov_g hI hx
  have h24 := (iR hI).1
  have hb : ∀ i, i < (I 2 4).toNat → 0 ≤ I (rf R (rf R 3 i) 0) 8 ∧ I (rf R (rf R 3 i) 0) 8 ≤ 203 := fun i hi => by
    have h4 := (iR hI).2.2.2.1 i (by omega)
    have a11 := h4.2.2.2.2.2.2.2.2.2.2.2.2
    have := a11.2.1
    omega
  have hd : 0 ≤ I d 8 ∧ I d 8 ≤ 203 := by have := tn.2.1; omega
  have hxn : x < (I 2 4).toNat := by omega
  have e1 := top_eq hI (a := k) (k := k) hs hg
  have e2 := mov_new hI (x := x) (k := k) hs hg tn
  unfold movM movC
  rw [← e1, e2]
  by_cases hf : inFo I R (rf R 3 x) k k
  · rw [add_out hb hxn ⟨hf, rfl⟩, add_in hb hd hxn ⟨hf, rfl⟩]
    exact ⟨fun h => ⟨hf, fun y => h y.symm⟩, fun h y => h.2 y.symm⟩
  · refine ⟨fun h => absurd ?_ h, fun h => absurd h.1 hf⟩
    unfold ansT twV
    rw [topF_congr (p := fun i => gP I R k k (grp I (rf R 3 x)) i ∧ fitP L R (if i = x then d else rf R (rf R 3 i) 0) s) (q := twP (gP I R k k (grp I (rf R 3 x))) L R (-1) s) (r2 := fun i => I (rf R 3 i) 3) (e2 := fun i => I (rf R (rf R 3 i) 0) 8) (I 2 4).toNat (fun i hi => ?_)]
    by_cases y : i = x
    · subst y
      exact ⟨⟨fun z => absurd z.1.1 hf, fun z => absurd z.1.1 hf⟩, fun z => absurd z.1.1 hf⟩
    · rw [if_neg y]
      exact ⟨⟨fun z => ⟨z.1, by omega, z.2⟩, fun z => ⟨z.1, z.2.2⟩⟩, fun _ => ⟨rfl, rfl⟩⟩
/-- what the class's answers of rules look at -/
def Hg (I J : IH) : Prop := J 2 4 = I 2 4 ∧ ∀ a j, (71 ≤ a ∧ a ≤ 76) ∨ 131 ≤ a → J a j = I a j
theorem sg_hg {I J : IH} (h : Sg I J) : Hg I J := ⟨sg24 h, fun a j q => h a j (by unfold S0; omega)⟩
theorem gP_hg {I J : IH} {R : RH} {K : KH} {a k g : Int} {i : Nat} (hR : RuleOK I R K i) (h : Hg I J) : (inFo J R (rf R 3 i) a k ↔ inFo I R (rf R 3 i) a k) ∧ grp J (rf R 3 i) = grp I (rf R 3 i) := by
  obtain ⟨g1, g2, g3, g4, -⟩ := hR
  have ej : ∀ j, J (rf R 3 i) j = I (rf R 3 i) j := fun j => h.2 _ _ (by omega)
  have eF : inFo J R (rf R 3 i) a k ↔ inFo I R (rf R 3 i) a k := inFo_ag ej (fun j => h.2 _ _ (by omega))
  have eg : grp J (rf R 3 i) = grp I (rf R 3 i) := by unfold grp; rw [ej, ej]
  exact ⟨eF, eg⟩
theorem fitP_lg {I : IH} {L L1 : LH} {R : RH} {K : KH} {x : Nat} {s : Int} (ht : TextOK I R K x) (hl : Lg L L1) : fitP L1 R x s ↔ fitP L R x s := by
  obtain ⟨t1, t2, t3, t4, t5, t6⟩ := ht
  unfold fitP inSet
  rw [t5, hl _ _ (by omega)]
theorem ansT_hg {I J : IH} {L L1 : LH} {R : RH} {K : KH} {g s a k wo : Int} (hR : RulesOK I R K) (h : Hg I J) (hl : Lg L L1) : ansT J L1 R g s a k wo = ansT I L R g s a k wo := by
  unfold ansT twV
  rw [h.1]
  refine topF_congr _ (fun i hi => ?_)
  have hRi := hR.2.2 i (by omega)
  have hg := gP_hg (a := a) (k := k) (g := g) hRi h
  obtain ⟨g1, g2, g3, g4, g5, g6, g7, g8, g9, g10⟩ := hRi
  have hf := fitP_lg (s := s) g10 hl
  have t1 := g10.1
  refine ⟨and_congr (by unfold gP; rw [hg.1, hg.2]) (and_congr_right' hf), fun _ => ⟨h.2 _ _ (by omega), h.2 _ _ (by omega)⟩⟩
theorem addT_hg {I J : IH} {L L1 : LH} {R : RH} {K : KH} {x : Nat} {t r s : Int} (ht : TextOK I R K x) (h : Hg I J) (hl : Lg L L1) : addT J L1 R x t r s = addT I L R x t r s := by
  have hf := fitP_lg (s := s) ht hl
  have t1 := ht.1
  have e8 : J x 8 = I x 8 := h.2 _ _ (by omega)
  unfold addT
  rw [e8]
  by_cases q : fitP L R x s
  · rw [if_pos q, if_pos (hf.mpr q)]
  · rw [if_neg q, if_neg (fun z => q (hf.mp z))]
theorem movC_hg {I J : IH} {L L1 : LH} {R : RH} {K : KH} {d n : Nat} {k s : Int} (hR : RulesOK I R K) (hn : (n : Int) < I 2 4) (hd : TextOK I R K d) (h : Hg I J) (hl : Lg L L1) : movC J L1 R d n k s ↔ movC I L R d n k s := by
  have hRn := hR.2.2 n hn
  have hg := gP_hg (a := k) (k := k) (g := 0) hRn h
  obtain ⟨g1, g2, g3, g4, g5, g6, g7, g8, g9, g10⟩ := hRn
  have e3 : J (rf R 3 n) 3 = I (rf R 3 n) 3 := h.2 _ _ (by omega)
  unfold movC
  rw [hg.1, hg.2, ansT_hg hR h hl, addT_hg g10 h hl, addT_hg hd h hl, e3]
