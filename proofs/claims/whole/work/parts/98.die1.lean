/-! die, settle: purses -/
def S1 (a j : Nat) : Prop := S0 a j ∨ a = 18 ∨ (33 ≤ a ∧ a ≤ 35) ∨ (107 ≤ a ∧ a ≤ 110)
def Pg (I J : IH) : Prop := ∀ a j, ¬ S1 a j → J a j = I a j
theorem pg_r {I : IH} : Pg I I := fun _ _ _ => rfl
theorem pg_t {I J J2 : IH} (h : Pg I J) (h2 : Pg J J2) : Pg I J2 := fun a j q => (h2 a j q).trans (h a j q)
theorem pg_g {I J : IH} (h : Sg I J) : Pg I J := fun a j q => h a j (fun g => q (.inl g))
theorem pg_s {I J : IH} {a i : Nat} {v : Int} (h : Pg I J) (hs : S1 a i) : Pg I (setF J a i v) := fun b j q => by
  rw [setF_n (fun e => q (by rw [e.1, e.2]; exact hs))]
  exact h b j q
theorem gP_pg {I J : IH} {R : RH} {K : KH} {a k g : Int} {i : Nat} (hR : RuleOK I R K i) (h : Pg I J) : gP J R a k g i ↔ gP I R a k g i := by
  obtain ⟨g1, g2, g3, g4, -⟩ := hR
  have ej : ∀ j, J (rf R 3 i) j = I (rf R 3 i) j := fun j => h _ _ (by unfold S1 S0; omega)
  have eF : inFo J R (rf R 3 i) a k ↔ inFo I R (rf R 3 i) a k := inFo_ag ej (fun j => h _ _ (by unfold S1 S0; omega))
  have eg : grp J (rf R 3 i) = grp I (rf R 3 i) := by unfold grp; rw [ej, ej]
  unfold gP
  rw [eg]
  exact and_congr_left' eF
theorem pg24 {I J : IH} (h : Pg I J) : J 2 4 = I 2 4 := h _ _ (by unfold S1 S0; omega)
theorem rulesOK_pg {I J : IH} {R : RH} {K : KH} (hR : RulesOK I R K) (h : Pg I J) : RulesOK J R K := by
  obtain ⟨a1, a2, a3⟩ := hR
  refine ⟨by rw [pg24 h]; exact a1, by rw [pg24 h]; exact a2, fun i hi => ?_⟩
  rw [pg24 h] at hi
  obtain ⟨g1, g2, g3, g4, g5, g6, g7, g8, g9, g10⟩ := a3 i hi
  have ej : ∀ j, J (rf R 3 i) j = I (rf R 3 i) j := fun j => h _ _ (by unfold S1 S0; omega)
  unfold RuleOK
  rw [ej, ej, ej, ej, ej]
  refine ⟨g1, g2, g3, g4, g5, g6, g7, g8, g9, ?_⟩
  obtain ⟨t1, t2, t3, t4, t5, t6⟩ := g10
  refine ⟨t1, t2, t3, t4, t5, ?_⟩
  rw [h _ _ (by unfold S1 S0; omega)]; exact t6
theorem ansT_pg {I J : IH} {L L1 : LH} {R : RH} {K : KH} {g s a k wo : Int} (hR : RulesOK I R K) (h : Pg I J) (hl : Lg L L1) : ansT J L1 R g s a k wo = ansT I L R g s a k wo := by
  unfold ansT twV
  rw [pg24 h]
  refine topF_congr _ (fun i hi => ?_)
  obtain hRi := hR.2.2 i (by omega)
  have hg := gP_pg (a := a) (k := k) (g := g) hRi h
  obtain ⟨g1, g2, g3, g4, g5, g6, g7, g8, g9, g10⟩ := hRi
  obtain ⟨t1, t2, t3, t4, t5, t6⟩ := g10
  have hf : fitP L1 R (rf R (rf R 3 i) 0) s ↔ fitP L R (rf R (rf R 3 i) 0) s := by
    unfold fitP inSet
    rw [t5, hl _ _ (by omega)]
  refine ⟨and_congr hg (and_congr_right' hf), fun _ => ⟨h _ _ (by unfold S1 S0; omega), h _ _ (by unfold S1 S0; omega)⟩⟩
theorem ansC_pg {I J : IH} {L L1 : LH} {R : RH} {K : KH} {g s a k : Int} (hR : RulesOK I R K) (h : Pg I J) (hl : Lg L L1) : ansC J L1 R g s a k = ansC I L R g s a k := by
  unfold ansC; rw [ansT_pg hR h hl]
theorem lawC_pg {I J : IH} {L L1 : LH} {R : RH} {K : KH} {d s f j k : Int} (hR : RulesOK I R K) (h : Pg I J) (hl : Lg L L1) : lawC J L1 R d s f j k = lawC I L R d s f j k := by
  unfold lawC
  rw [ansC_pg hR h hl, ansC_pg hR h hl, ansC_pg hR h hl, h 17 _ (by unfold S1 S0; omega), h 15 _ (by unfold S1 S0; omega)]
theorem modOK_pg {I J : IH} {sw : Int} (h : ModOK I sw) (hs : Pg I J) : ModOK J sw := h.fr (hs _ _ (by unfold S1 S0; omega)) (fun a j q1 q2 => hs _ _ (by unfold S1 S0; omega))
theorem ansM_pg {I J : IH} {b lo hi s a k : Int} (hs : Pg I J) : ansM J b lo hi s a k = ansM I b lo hi s a k := by
  unfold ansM
  rw [tmV_fr (fun a j q1 q2 => hs _ _ (by unfold S1 S0; omega)), hs 77 7 (by unfold S1 S0; omega)]
theorem lawM_pg {I J : IH} {d s f j k : Int} (h : Pg I J) : lawM J d s f j k = lawM I d s f j k := by
  unfold lawM
  rw [ansM_pg h, ansM_pg h, ansM_pg h, h 95 _ (by unfold S1 S0; omega), h 93 _ (by unfold S1 S0; omega)]
def cntI (p : Nat → Bool) (m : Nat) : Int := sumTo (fun k => (if p k = true then 1 else 0 : Int)) m
theorem cntI_s {p : Nat → Bool} {m : Nat} : cntI p (m + 1) = cntI p m + (if p m = true then 1 else 0 : Int) := rfl
theorem cntI_b {p : Nat → Bool} : ∀ m, 0 ≤ cntI p m ∧ cntI p m ≤ m := by
  intro m
  induction m with
  | zero => exact ⟨Int.le_refl _, Int.le_refl _⟩
  | succ m ih => rw [cntI_s]; split <;> omega
theorem cntI_mono {p : Nat → Bool} {a : Nat} : ∀ b, cntI p a ≤ cntI p (a + b) := by
  intro b
  induction b with
  | zero => exact Int.le_refl _
  | succ b ih => rw [show a + (b + 1) = (a + b) + 1 by omega, cntI_s]; split <;> omega
def addR (r : Nat → Int) (i : Nat) (x : Int) : Nat → Int := fun j => if j = i then r i + x else r j
def evC (c : Nat → Int) (p : Nat → Bool) (x h : Int) : Nat → Int := fun j => if p j = true then c j + (x / h + (if cntI p j < x % h then 1 else 0)) else c j
abbrev Pu := (Nat → Int) × (Nat → Int)
def chestP (ck : Pu) (d : Nat) (x : Int) : Pu := (ck.1, addR ck.2 d x)
def chilP (ck : Pu) (p : Nat → Bool) (d : Nat) (x : Int) : Pu := if cntI p 30 = 0 then chestP ck d x else (evC ck.1 p x (cntI p 30), ck.2)
def oneP (ck : Pu) (al : Bool) (i d : Nat) (x : Int) : Pu := if al = true then (addR ck.1 i x, ck.2) else chestP ck d x
def hlfP (p : Nat → Bool) (x : Int) : Int := if cntI p 30 = 0 then x else x / 2
def goP (ck : Pu) (hr : Int → Nat → Bool) (al : Int → Bool) (el par : Int) (d : Nat) (w x : Int) : Pu :=
  if w = 0 then oneP ck (al el) el.toNat d x
  else if w = 1 then chilP ck (hr (-1)) d x
  else if w = 2 then oneP ck (al par) par.toNat d x
  else chilP (oneP ck (al el) el.toNat d (hlfP (hr el) x)) (hr el) d (x - hlfP (hr el) x)
def owP (e x : Int) : Int := if 100 ≤ e then x * (e - 100) / 100 else 0
def partP (ck : Pu) (hr : Int → Nat → Bool) (al : Int → Bool) (el par : Int) (d : Nat) (e x : Int) : Pu :=
  if e = 0 then chestP ck d x
  else if 200 ≤ e then goP ck hr al el par d (e - 200) x
  else chilP (chestP ck d (owP e x)) (hr (-1)) d (x - owP e x)
/-- nothing is lost: n persons, m districts, T in all, s in hand -/
def Tot (n m T : Int) (ck : Pu) (s : Int) : Prop := (∀ j : Nat, j < 30 → 0 ≤ ck.1 j ∧ (n ≤ (j : Int) → ck.1 j = 0)) ∧ (∀ d : Nat, d < 8 → 0 ≤ ck.2 d ∧ (m ≤ (d : Int) → ck.2 d = 0)) ∧ 0 ≤ s ∧ sumTo ck.1 30 + sumTo ck.2 8 + s = T
theorem addR_sum {r : Nat → Int} {i n : Nat} {x : Int} (h : i < n) : sumTo (addR r i x) n = sumTo r n + x := by
  have := sumTo_set (f := r) (k := i) (v := r i + x) n
  rw [if_pos h] at this
  unfold addR
  rw [this]
  omega
theorem Tot.chest {n m T x s : Int} {ck : Pu} {d : Nat} (h : Tot n m T ck (x + s)) (hx : 0 ≤ x) (hs : 0 ≤ s) (hd : d < 8) (hm : (d : Int) < m) : Tot n m T (chestP ck d x) s := by
  obtain ⟨h1, h2, h3, h4⟩ := h
  refine ⟨h1, fun j hj => ?_, hs, ?_⟩
  · show 0 ≤ (if j = d then ck.2 d + x else ck.2 j) ∧ (m ≤ (j : Int) → (if j = d then ck.2 d + x else ck.2 j) = 0)
    have := h2 j hj
    by_cases q : j = d
    · subst q
      rw [if_pos rfl]
      exact ⟨by omega, fun g => by omega⟩
    · rw [if_neg q]; exact this
  · show sumTo ck.1 30 + sumTo (addR ck.2 d x) 8 + s = T
    rw [addR_sum hd]
    omega
theorem Tot.one {n m T x s : Int} {ck : Pu} {i d : Nat} {al : Bool} (h : Tot n m T ck (x + s)) (hx : 0 ≤ x) (hs : 0 ≤ s) (hd : d < 8) (hm : (d : Int) < m) (hi : al = true → i < 30 ∧ (i : Int) < n) : Tot n m T (oneP ck al i d x) s := by
  unfold oneP
  by_cases q : al = true
  · rw [if_pos q]
    have hi := hi q
    obtain ⟨h1, h2, h3, h4⟩ := h
    refine ⟨fun j hj => ?_, h2, hs, ?_⟩
    · show 0 ≤ (if j = i then ck.1 i + x else ck.1 j) ∧ (n ≤ (j : Int) → (if j = i then ck.1 i + x else ck.1 j) = 0)
      have := h1 j hj
      by_cases q : j = i
      · subst q
        rw [if_pos rfl]
        exact ⟨by omega, fun g => by omega⟩
      · rw [if_neg q]; exact this
    · show sumTo (addR ck.1 i x) 30 + sumTo ck.2 8 + s = T
      rw [addR_sum hi.1]
      omega
  · rw [if_neg q]
    exact h.chest hx hs hd hm
theorem ev_sum {c : Nat → Int} {p : Nat → Bool} {x h : Int} : ∀ m, sumTo (evC c p x h) m = sumTo c m + cntI p m * (x / h) + min (cntI p m) (max 0 (x % h)) := by
  intro m
  induction m with
  | zero =>
    show (0 : Int) = 0 + 0 * (x / h) + min 0 (max 0 (x % h))
    omega
  | succ m ih =>
    have b := cntI_b (p := p) m
    rw [sumTo_succ, sumTo_succ, ih, cntI_s]
    by_cases q : p m = true
    · have e : evC c p x h m = c m + (x / h + (if cntI p m < x % h then 1 else 0)) := by unfold evC; rw [if_pos q]
      rw [e, if_pos q, Int.add_mul]
      by_cases q2 : cntI p m < x % h
      · rw [if_pos q2]; omega
      · rw [if_neg q2]; omega
    · have e : evC c p x h m = c m := by unfold evC; rw [if_neg q]
      rw [e, if_neg q, show cntI p m + 0 = cntI p m by omega]
      omega
theorem Tot.chil {n m T x : Int} {ck : Pu} {d : Nat} {p : Nat → Bool} (h : Tot n m T ck x) (hd : d < 8) (hm : (d : Int) < m) (hp : ∀ j, p j = true → (j : Int) < n) : Tot n m T (chilP ck p d x) 0 := by
  unfold chilP
  by_cases q : cntI p 30 = 0
  · rw [if_pos q]
    exact Tot.chest (s := 0) (by rw [show x + 0 = x by omega]; exact h) h.2.2.1 (by omega) hd hm
  · rw [if_neg q]
    have b := cntI_b (p := p) 30
    have hc : 0 < cntI p 30 := by omega
    obtain ⟨h1, h2, h3, h4⟩ := h
    have g1 : 0 ≤ x / cntI p 30 := Int.ediv_nonneg h3 (by omega)
    have g2 : 0 ≤ x % cntI p 30 := Int.emod_nonneg _ (by omega)
    have g3 : x % cntI p 30 < cntI p 30 := Int.emod_lt_of_pos _ hc
    refine ⟨fun j hj => ?_, h2, by omega, ?_⟩
    · show 0 ≤ (if p j = true then _ else _) ∧ _
      have := h1 j hj
      by_cases q2 : p j = true
      · have := hp j q2
        have e : evC ck.1 p x (cntI p 30) j = ck.1 j + (x / cntI p 30 + (if cntI p j < x % cntI p 30 then 1 else 0)) := by unfold evC; rw [if_pos q2]
        show 0 ≤ evC ck.1 p x (cntI p 30) j ∧ (n ≤ (j : Int) → evC ck.1 p x (cntI p 30) j = 0)
        rw [e]
        refine ⟨?_, fun g => by omega⟩
        split <;> omega
      · have e : evC ck.1 p x (cntI p 30) j = ck.1 j := by unfold evC; rw [if_neg q2]
        show 0 ≤ evC ck.1 p x (cntI p 30) j ∧ (n ≤ (j : Int) → evC ck.1 p x (cntI p 30) j = 0)
        rw [e]
        exact this
    · show sumTo (evC ck.1 p x (cntI p 30)) 30 + sumTo ck.2 8 + 0 = T
      rw [ev_sum]
      have := Int.mul_ediv_add_emod x (cntI p 30)
      omega
theorem owP_b {e x : Int} (he : e < 200) (hx : 0 ≤ x) : 0 ≤ owP e x ∧ owP e x ≤ x := by
  unfold owP
  split
  · have h1 : 0 ≤ x * (e - 100) := Int.mul_nonneg hx (by omega)
    have h2 : x * (e - 100) ≤ x * 100 := Int.mul_le_mul_of_nonneg_left (by omega) hx
    omega
  · omega
theorem hlfP_b {p : Nat → Bool} {x : Int} (hx : 0 ≤ x) : 0 ≤ hlfP p x ∧ hlfP p x ≤ x := by
  unfold hlfP
  split <;> omega
theorem Tot.go {n m T x w el par : Int} {ck : Pu} {d : Nat} {hr : Int → Nat → Bool} {al : Int → Bool} (h : Tot n m T ck x) (hd : d < 8) (hm : (d : Int) < m) (hp : ∀ b j, hr b j = true → (j : Int) < n) (ha : ∀ i, al i = true → 0 ≤ i ∧ i < 30 ∧ i < n) : Tot n m T (goP ck hr al el par d w x) 0 := by
  have hx := h.2.2.1
  have hi : ∀ i : Int, al i = true → i.toNat < 30 ∧ (i.toNat : Int) < n := fun i q => by have := ha i q; omega
  have h0 : Tot n m T ck (x + 0) := by rw [show x + 0 = x by omega]; exact h
  unfold goP
  split
  · exact h0.one hx (by omega) hd hm (hi el)
  · split
    · exact h.chil hd hm (hp _)
    · split
      · exact h0.one hx (by omega) hd hm (hi par)
      · have b := hlfP_b (p := hr el) hx
        exact Tot.chil (Tot.one (s := x - hlfP (hr el) x) (by rw [show hlfP (hr el) x + (x - hlfP (hr el) x) = x by omega]; exact h) b.1 (by omega) hd hm (hi el)) hd hm (hp _)
theorem Tot.part {n m T x e el par : Int} {ck : Pu} {d : Nat} {hr : Int → Nat → Bool} {al : Int → Bool} (h : Tot n m T ck x) (hd : d < 8) (hm : (d : Int) < m) (hp : ∀ b j, hr b j = true → (j : Int) < n) (ha : ∀ i, al i = true → 0 ≤ i ∧ i < 30 ∧ i < n) : Tot n m T (partP ck hr al el par d e x) 0 := by
  have hx := h.2.2.1
  unfold partP
  split
  · exact Tot.chest (s := 0) (by rw [show x + 0 = x by omega]; exact h) hx (by omega) hd hm
  · split
    · exact h.go hd hm hp ha
    · have b := owP_b (e := e) (by omega) hx
      exact Tot.chil (Tot.chest (s := x - owP e x) (by rw [show owP e x + (x - owP e x) = x by omega]; exact h) b.1 (by omega) hd hm) hd hm (hp _)
theorem elem_le {f : Nat → Int} {n : Nat} (h : ∀ j, j < n → 0 ≤ f j) {i : Nat} (hi : i < n) : f i ≤ sumTo f n := by
  have h1 := sumTo_part h (i + 1) (by omega)
  have h2 := sumTo_part h i (by omega)
  rw [sumTo_succ] at h1
  omega
theorem Tot.b {n m T s : Int} {ck : Pu} (h : Tot n m T ck s) (hT : T ≤ 299970) : (∀ j, j < 30 → 0 ≤ ck.1 j ∧ ck.1 j + s ≤ 299970) ∧ (∀ d, d < 8 → 0 ≤ ck.2 d ∧ ck.2 d + s ≤ 299970) ∧ 0 ≤ s ∧ s ≤ 299970 := by
  obtain ⟨h1, h2, h3, h4⟩ := h
  have p1 := (sumTo_part (fun j hj => (h1 j hj).1) 30 (Nat.le_refl _)).1
  have p2 := (sumTo_part (fun j hj => (h2 j hj).1) 8 (Nat.le_refl _)).1
  refine ⟨fun j hj => ?_, fun d hd => ?_, h3, by omega⟩
  · have := elem_le (fun j hj => (h1 j hj).1) hj
    have := (h1 j hj).1
    omega
  · have := elem_le (fun j hj => (h2 j hj).1) hd
    have := (h2 d hd).1
    omega
/-- the heap with these rows of coins and chests -/
def purH (J : IH) (a b : Nat) (r : Pu) : IH := fun x j => if x = a then r.1 j else if x = b then r.2 j else J x j
theorem purH_2 {J : IH} {a b : Nat} {r s : Pu} : purH (purH J a b r) a b s = purH J a b s := by
  funext x j
  unfold purH
  by_cases q1 : x = a
  · simp only [if_pos q1]
  · by_cases q2 : x = b
    · simp only [if_neg q1, if_pos q2]
    · simp only [if_neg q1, if_neg q2]
theorem purH_id {J : IH} {a b : Nat} : purH J a b (J a, J b) = J := by
  funext x j
  unfold purH
  by_cases q1 : x = a
  · rw [if_pos q1, q1]
  · rw [if_neg q1]
    by_cases q2 : x = b
    · rw [if_pos q2, q2]
    · rw [if_neg q2]
theorem purH_chest {J : IH} {a b d : Nat} {x : Int} (hab : a ≠ b) : setF J b d (J b d + x) = purH J a b (chestP (J a, J b) d x) := by
  funext y j
  show (if y = b ∧ j = d then J b d + x else J y j) = (if y = a then J a j else if y = b then (if j = d then J b d + x else J b j) else J y j)
  by_cases q1 : y = a
  · rw [if_neg (fun g => hab (q1.symm.trans g.1)), if_pos q1, q1]
  · rw [if_neg q1]
    by_cases q2 : y = b
    · rw [if_pos q2]
      by_cases q3 : j = d
      · rw [if_pos ⟨q2, q3⟩, if_pos q3]
      · rw [if_neg (fun g => q3 g.2), if_neg q3, q2]
    · rw [if_neg (fun g => q2 g.1), if_neg q2]
theorem purH_one {J : IH} {a b i : Nat} {x : Int} (hab : a ≠ b) : setF J a i (J a i + x) = purH J a b (addR (J a) i x, J b) := by
  funext y j
  show (if y = a ∧ j = i then J a i + x else J y j) = (if y = a then (if j = i then J a i + x else J a j) else if y = b then J b j else J y j)
  by_cases q1 : y = a
  · rw [if_pos q1]
    by_cases q3 : j = i
    · rw [if_pos ⟨q1, q3⟩, if_pos q3]
    · rw [if_neg (fun g => q3 g.2), if_neg q3, q1]
  · rw [if_neg (fun g => q1 g.1), if_neg q1]
    by_cases q2 : y = b
    · rw [if_pos q2, q2]
    · rw [if_neg q2]
theorem purH_tab {J : IH} {a b : Nat} {f : Nat → Int} : tabF J a f = purH J a b (f, J b) := by
  funext y j
  show (if y = a then f j else J y j) = (if y = a then f j else if y = b then J b j else J y j)
  by_cases q1 : y = a
  · rw [if_pos q1, if_pos q1]
  · rw [if_neg q1, if_neg q1]
    by_cases q2 : y = b
    · rw [if_pos q2, q2]
    · rw [if_neg q2]
/-- parted among the first i alone -/
def evK (c : Nat → Int) (p : Nat → Bool) (x h : Int) (i : Nat) : Nat → Int := fun j => if j < i then evC c p x h j else c j
theorem evK_0 {c : Nat → Int} {p : Nat → Bool} {x h : Int} : evK c p x h 0 = c := by
  funext j
  unfold evK
  rw [if_neg (by omega)]
theorem evK_no {c : Nat → Int} {p : Nat → Bool} {x h : Int} {i : Nat} (hp : ¬ p i = true) : evK c p x h (i + 1) = evK c p x h i := by
  funext j
  unfold evK
  by_cases q : j < i
  · rw [if_pos q, if_pos (by omega)]
  · rw [if_neg q]
    by_cases q2 : j = i
    · subst q2
      rw [if_pos (by omega)]
      unfold evC
      rw [if_neg hp]
    · rw [if_neg (by omega)]
theorem evK_yes {c : Nat → Int} {p : Nat → Bool} {x h : Int} {i : Nat} (hp : p i = true) : updF (evK c p x h i) i (c i + (x / h + (if cntI p i < x % h then 1 else 0))) = evK c p x h (i + 1) := by
  funext j
  unfold updF evK
  by_cases q2 : j = i
  · subst q2
    rw [if_pos rfl, if_pos (Nat.lt_succ_self j)]
    unfold evC
    rw [if_pos hp]
  · rw [if_neg q2]
    by_cases q : j < i
    · rw [if_pos q, if_pos (by omega)]
    · rw [if_neg q, if_neg (by omega)]
theorem evK_all {c : Nat → Int} {p : Nat → Bool} {x h : Int} {n : Nat} (hp : ∀ j, n ≤ j → ¬ p j = true) : evK c p x h n = evC c p x h := by
  funext j
  unfold evK
  by_cases q : j < n
  · rw [if_pos q]
  · rw [if_neg q]
    unfold evC
    rw [if_neg (hp j (by omega))]
def hrC (J : IH) (a b : Int) : Nat → Bool := fun j => decide ((j : Int) < J 27 9 ∧ J 29 j = a ∧ J 34 j = 0 ∧ (j : Int) ≠ b)
def hrM (J : IH) (a b : Int) : Nat → Bool := fun j => decide ((j : Int) < J 77 31 ∧ J 103 j = a ∧ J 108 j = 0 ∧ (j : Int) ≠ b)
def alC (J : IH) (i : Int) : Bool := decide (0 ≤ i ∧ i < J 27 9 ∧ J 34 i.toNat = 0)
def alM (J : IH) (i : Int) : Bool := decide (0 ≤ i ∧ i < J 77 31 ∧ J 108 i.toNat = 0)
theorem cntI_from {p : Nat → Bool} {n : Nat} (h : ∀ j, n ≤ j → ¬ p j = true) : ∀ k, cntI p (n + k) = cntI p n := by
  intro k
  induction k with
  | zero => rfl
  | succ k ih => rw [show n + (k + 1) = (n + k) + 1 by omega, cntI_s, if_neg (h _ (by omega)), ih]; omega
theorem cntI_c {p q : Nat → Bool} {n : Nat} (h : ∀ j, j < n → p j = q j) : cntI p n = cntI q n := sumTo_congr n (fun j hj => by rw [h j hj])
theorem lv_cnt {J : IH} {a b : Int} (hn : 0 ≤ J 27 9 ∧ J 27 9 ≤ 30) : sumTo (fun (j : Nat) => (if J 29 j = a ∧ J 34 j = 0 ∧ (j : Int) ≠ b then 1 else 0 : Int)) (J 27 9).toNat = cntI (hrC J a b) 30 := by
  have e := cntI_from (p := hrC J a b) (n := (J 27 9).toNat) (fun j hj q => by have := of_decide_eq_true q; omega) (30 - (J 27 9).toNat)
  rw [show (J 27 9).toNat + (30 - (J 27 9).toNat) = 30 by omega] at e
  rw [e]
  refine sumTo_congr _ (fun j hj => ?_)
  by_cases q : J 29 j = a ∧ J 34 j = 0 ∧ (j : Int) ≠ b
  · rw [if_pos q, if_pos (show hrC J a b j = true from decide_eq_true ⟨by omega, q⟩)]
  · rw [if_neg q, if_neg (fun g => q (of_decide_eq_true g).2)]
theorem ch_cnt {J : IH} {a : Int} (hn : 0 ≤ J 77 31 ∧ J 77 31 ≤ 30) : sumTo (fun (j : Nat) => (if J 103 j = a ∧ J 108 j = 0 then 1 else 0 : Int)) (J 77 31).toNat = cntI (hrM J a (-1)) 30 := by
  have e := cntI_from (p := hrM J a (-1)) (n := (J 77 31).toNat) (fun j hj q => by have := of_decide_eq_true q; omega) (30 - (J 77 31).toNat)
  rw [show (J 77 31).toNat + (30 - (J 77 31).toNat) = 30 by omega] at e
  rw [e]
  refine sumTo_congr _ (fun j hj => ?_)
  by_cases q : J 103 j = a ∧ J 108 j = 0
  · rw [if_pos q, if_pos (show hrM J a (-1) j = true from decide_eq_true ⟨by omega, q.1, q.2, by omega⟩)]
  · rw [if_neg q, if_neg (fun g => q ⟨(of_decide_eq_true g).2.1, (of_decide_eq_true g).2.2.1⟩)]
/-- one heir left out -/
theorem cnt_but {J : IH} {a b : Int} (hn : 0 ≤ J 77 31 ∧ J 77 31 ≤ 30) (hb : 0 ≤ b) (h : hrM J a (-1) b.toNat = true) : cntI (hrM J a b) 30 = cntI (hrM J a (-1)) 30 - 1 := by
  have hh := of_decide_eq_true h
  have key : ∀ m, cntI (hrM J a b) m = cntI (hrM J a (-1)) m - (if b.toNat < m then 1 else 0) := by
    intro m
    induction m with
    | zero => rw [if_neg (by omega)]; rfl
    | succ m ih =>
      rw [cntI_s, cntI_s, ih]
      by_cases q : b.toNat = m
      · have e1 : ¬ hrM J a b m = true := fun g => (of_decide_eq_true g).2.2.2 (by omega)
        rw [q] at h
        rw [if_neg e1, if_pos h, if_neg (by omega), if_pos (by omega)]; omega
      · have e1 : hrM J a b m = hrM J a (-1) m := by
          unfold hrM
          rw [decide_eq_decide]
          exact ⟨fun g => ⟨g.1, g.2.1, g.2.2.1, by omega⟩, fun g => ⟨g.1, g.2.1, g.2.2.1, by omega⟩⟩
        rw [e1]
        by_cases q2 : b.toNat < m
        · rw [if_pos q2, if_pos (show b.toNat < m + 1 by omega)]; omega
        · rw [if_neg q2, if_neg (show ¬ b.toNat < m + 1 by omega)]; omega
  rw [key 30, if_pos (by omega)]
def PsC (J : IH) : Prop := (0 ≤ J 27 9 ∧ J 27 9 ≤ 30) ∧ (∀ j, j < 30 → 0 ≤ J 33 j ∧ J 33 j ≤ 300000) ∧ ∀ d, d < 8 → 0 ≤ J 18 d ∧ J 18 d ≤ 300000
def PsM (J : IH) : Prop := (0 ≤ J 77 31 ∧ J 77 31 ≤ 30) ∧ (∀ j, j < 30 → 0 ≤ J 107 j ∧ J 107 j ≤ 300000) ∧ ∀ d, d < 8 → 0 ≤ J 110 d ∧ J 110 d ≤ 300000
theorem div_b {x h : Int} (hx : 0 ≤ x) (hh : 0 < h) : 0 ≤ x / h ∧ x / h ≤ x ∧ 0 ≤ x % h ∧ x % h < h := ⟨Int.ediv_nonneg hx (by omega), Int.ediv_le_self _ hx, Int.emod_nonneg _ (by omega), Int.emod_lt_of_pos _ hh⟩
theorem w_221_0 {sc : Nat × (Nat → Int)} {I : IH} {L : LH} {R : RH} {K : KH} {Q : AQ} {a0 a1 a2 : Int} (hL : Lay R K) (h : ((0 ≤ I 27 9 ∧ I 27 9 ≤ 30)) ∧ (((sumTo (fun (j : Nat) => (if I 29 j = a0 ∧ I 34 j = 0 ∧ (j : Int) ≠ a1 then 1 else 0 : Int)) (I 27 9).toNat) ≠ 0 → (((0 : Int) ≤ a2 ∧ a2 < (2147483648 : Int)) ∧ (0 : Int) < sumTo (fun (j : Nat) => (if I 29 j = a0 ∧ I 34 j = 0 ∧ (j : Int) ≠ a1 then 1 else 0 : Int)) (I 27 9).toNat ∧ sumTo (fun (j : Nat) => (if I 29 j = a0 ∧ I 34 j = 0 ∧ (j : Int) ≠ a1 then 1 else 0 : Int)) (I 27 9).toNat < (2147483648 : Int)) ∧ E sc 221 29 [some (aR (some 27)), some (aI a0), some (aI a1), some (aI a2), some (aI (sumTo (fun (j : Nat) => (if I 29 j = a0 ∧ I 34 j = 0 ∧ (j : Int) ≠ a1 then 1 else 0 : Int)) (I 27 9).toNat)), some (aI (a2 % (sumTo (fun (j : Nat) => (if I 29 j = a0 ∧ I 34 j = 0 ∧ (j : Int) ≠ a1 then 1 else 0 : Int)) (I 27 9).toNat))), some (aI 0)] [] I L R K Q) ∧ ((sumTo (fun (j : Nat) => (if I 29 j = a0 ∧ I 34 j = 0 ∧ (j : Int) ≠ a1 then 1 else 0 : Int)) (I 27 9).toNat) = 0 → (((0 : Int) ≤ a0 ∧ a0 < (30 : Int))) ∧ (((0 : Int) ≤ I 28 a0.toNat ∧ I 28 a0.toNat < (8 : Int))) ∧ ((-2147483648 : Int) ≤ (I 18 ((I 28 a0.toNat).toNat)) + a2 ∧ (I 18 ((I 28 a0.toNat).toNat)) + a2 < (2147483648 : Int)) ∧ (((0 : Int) ≤ I 28 a0.toNat ∧ I 28 a0.toNat < (8 : Int))) ∧ Q none (setF I 18 ((I 28 a0.toNat).toNat) ((I 18 ((I 28 a0.toNat).toNat)) + a2)) L R K))) : E sc 221 0 [some (aR (some 27)), some (aI a0), some (aI a1), some (aI a2), none, none, none] [] I L R K Q :=
  e_aload_n mb_221 dX3_toChildren_0 rfl (e_iload_n mb_221 dX3_toChildren_1 rfl (e_iload_n mb_221 dX3_toChildren_2 rfl (e_callV mb_221 dX3_toChildren_3 mf_221 mf_212 cs_12350 rfl rfl rfl rfl (lk_27 hL) rfl (v_212 hL h.1 (show E _ _ _ _ (_ :: _) _ _ _ _ _ from e_istore (l1 := [some (aR (some 27)), some (aI a0), some (aI a1), some (aI a2), some (aI (sumTo (fun (j : Nat) => (if I 29 j = a0 ∧ I 34 j = 0 ∧ (j : Int) ≠ a1 then 1 else 0 : Int)) (I 27 9).toNat)), none, none]) mb_221 dX3_toChildren_6 rfl (e_iload mb_221 dX3_toChildren_8 rfl (e_if mb_221 dX3_toChildren_10 rfl (fun q1 => e_iload_n mb_221 dX3_toChildren_20 rfl (e_iload mb_221 dX3_toChildren_21 rfl (e_irem mb_221 dX3_toChildren_23 (h.2.1 (cb_ne.1.mp q1)).1 (e_istore (l1 := [some (aR (some 27)), some (aI a0), some (aI a1), some (aI a2), some (aI (sumTo (fun (j : Nat) => (if I 29 j = a0 ∧ I 34 j = 0 ∧ (j : Int) ≠ a1 then 1 else 0 : Int)) (I 27 9).toNat)), some (aI (a2 % (sumTo (fun (j : Nat) => (if I 29 j = a0 ∧ I 34 j = 0 ∧ (j : Int) ≠ a1 then 1 else 0 : Int)) (I 27 9).toNat))), none]) mb_221 dX3_toChildren_24 rfl (e_iconst mb_221 dX3_toChildren_26 cv_iconst_0 (e_istore (l1 := [some (aR (some 27)), some (aI a0), some (aI a1), some (aI a2), some (aI (sumTo (fun (j : Nat) => (if I 29 j = a0 ∧ I 34 j = 0 ∧ (j : Int) ≠ a1 then 1 else 0 : Int)) (I 27 9).toNat)), some (aI (a2 % (sumTo (fun (j : Nat) => (if I 29 j = a0 ∧ I 34 j = 0 ∧ (j : Int) ≠ a1 then 1 else 0 : Int)) (I 27 9).toNat))), some (aI 0)]) mb_221 dX3_toChildren_27 rfl ((h.2.1 (cb_ne.1.mp q1)).2))))))) (fun q1 => e_aload_n mb_221 dX3_toChildren_13 rfl (e_iload_n mb_221 dX3_toChildren_14 rfl (e_iload_n mb_221 dX3_toChildren_15 rfl (e_callV mb_221 dX3_toChildren_16 mf_221 mf_222 cs_12359 rfl rfl rfl rfl (lk_27 hL) rfl (show E _ _ _ [some (aR (some 27)), some (aI a0), some (aI a2)] [] _ _ _ _ _ from e_aload_n mb_222 dX3_toChest_0 rfl (e_getr mb_222 dX3_toChest_1 mf_222.1 fs_12324 fk_3_0 (lk_27 hL) (lr_27_0 hL) (e_getr mb_222 dX3_toChest_4 mf_222.1 fs_12382 fk_1_4 (lk_14 hL) (lr_14_4 hL) (e_aload_n mb_222 dX3_toChest_7 rfl (e_getr mb_222 dX3_toChest_8 mf_222.1 fs_12299 fk_3_1 (lk_27 hL) (lr_27_1 hL) (e_iload_n mb_222 dX3_toChest_11 rfl (e_ial mb_222 dX3_toChest_12 (lk_28 hL) (ll_28 hL) (h.2.2 (cb_ne.2.mp q1)).1 rfl (e_dup2 mb_222 dX3_toChest_13 ⟨rfl, rfl⟩ (e_ial mb_222 dX3_toChest_14 (lk_18 hL) (ll_18 hL) (h.2.2 (cb_ne.2.mp q1)).2.1 rfl (e_iload_n mb_222 dX3_toChest_15 rfl (e_iadd mb_222 dX3_toChest_16 (h.2.2 (cb_ne.2.mp q1)).2.2.1 (e_iastore mb_222 dX3_toChest_17 (lk_18 hL) (ll_18 hL) (h.2.2 (cb_ne.2.mp q1)).2.2.2.1 (e_return mb_222 dX3_toChest_18 rv_222 (show E _ _ _ _ [] _ _ _ _ _ from e_return mb_221 dX3_toChildren_19 rv_221 (h.2.2 (cb_ne.2.mp q1)).2.2.2.2)))))))))))))))))))))))))
theorem w_221_29 {sc : Nat × (Nat → Int)} {I : IH} {L : LH} {R : RH} {K : KH} {Q : AQ} {x1 x2 x3 x4 x5 x6 : Int} (hL : Lay R K) (h : (((I 27 9) ≤ x6 → Q none I L R K) ∧ (x6 < (I 27 9) → ((0 ≤ x6 ∧ x6 < 30)) ∧ ((I 29 x6.toNat = x1 ∧ I 34 x6.toNat = 0 ∧ x6 ≠ x2 → (((0 : Int) ≤ x6 ∧ x6 < (30 : Int))) ∧ (((0 : Int) ≤ x3 ∧ x3 < (2147483648 : Int)) ∧ (0 : Int) < x4 ∧ x4 < (2147483648 : Int)) ∧ ((x5 ≤ 0 → ((-2147483648 : Int) ≤ (x3 / x4) + 0 ∧ (x3 / x4) + 0 < (2147483648 : Int)) ∧ ((-2147483648 : Int) ≤ (I 33 x6.toNat) + ((x3 / x4) + 0) ∧ (I 33 x6.toNat) + ((x3 / x4) + 0) < (2147483648 : Int)) ∧ (((0 : Int) ≤ x6 ∧ x6 < (30 : Int))) ∧ ((-2147483648 : Int) ≤ x5 + (-1) ∧ x5 + (-1) < (2147483648 : Int)) ∧ ((-2147483648 : Int) ≤ x6 + 1 ∧ x6 + 1 < (2147483648 : Int)) ∧ E sc 221 29 [some (aR (some 27)), some (aI x1), some (aI x2), some (aI x3), some (aI x4), some (aI (x5 + (-1))), some (aI (x6 + 1))] [] (setF I 33 x6.toNat ((I 33 x6.toNat) + ((x3 / x4) + 0))) L R K Q) ∧ (0 < x5 → ((-2147483648 : Int) ≤ (x3 / x4) + 1 ∧ (x3 / x4) + 1 < (2147483648 : Int)) ∧ ((-2147483648 : Int) ≤ (I 33 x6.toNat) + ((x3 / x4) + 1) ∧ (I 33 x6.toNat) + ((x3 / x4) + 1) < (2147483648 : Int)) ∧ (((0 : Int) ≤ x6 ∧ x6 < (30 : Int))) ∧ ((-2147483648 : Int) ≤ x5 + (-1) ∧ x5 + (-1) < (2147483648 : Int)) ∧ ((-2147483648 : Int) ≤ x6 + 1 ∧ x6 + 1 < (2147483648 : Int)) ∧ E sc 221 29 [some (aR (some 27)), some (aI x1), some (aI x2), some (aI x3), some (aI x4), some (aI (x5 + (-1))), some (aI (x6 + 1))] [] (setF I 33 x6.toNat ((I 33 x6.toNat) + ((x3 / x4) + 1))) L R K Q))) ∧ (¬(I 29 x6.toNat = x1 ∧ I 34 x6.toNat = 0 ∧ x6 ≠ x2) → ((-2147483648 : Int) ≤ x6 + 1 ∧ x6 + 1 < (2147483648 : Int)) ∧ E sc 221 29 [some (aR (some 27)), some (aI x1), some (aI x2), some (aI x3), some (aI x4), some (aI x5), some (aI (x6 + 1))] [] I L R K Q))))) : E sc 221 29 [some (aR (some 27)), some (aI x1), some (aI x2), some (aI x3), some (aI x4), some (aI x5), some (aI x6)] [] I L R K Q :=
  e_iload mb_221 dX3_toChildren_29 rfl (e_aload_n mb_221 dX3_toChildren_31 rfl (e_getv mb_221 dX3_toChildren_32 mf_221.1 fs_12328 (Or.inl fk_3_9) (lk_27 hL) rfl (e_icmp mb_221 dX3_toChildren_35 rfl (fun q1 => e_return mb_221 dX3_toChildren_83 rv_221 (h.1 (cb_ge.1.mp q1))) (fun q1 => e_aload_n mb_221 dX3_toChildren_38 rfl (e_iload mb_221 dX3_toChildren_39 rfl (e_iload_n mb_221 dX3_toChildren_41 rfl (e_iload_n mb_221 dX3_toChildren_42 rfl (e_callV mb_221 dX3_toChildren_43 mf_221 mf_219 cs_12332 rfl rfl rfl rfl (lk_27 hL) rfl (v_219 hL (h.2 (cb_ge.2.mp q1)).1 (show E _ _ _ _ (_ :: _) _ _ _ _ _ from e_ifb_eq mb_221 dX3_toChildren_46 rfl ⟨fun q2 => e_aload_n mb_221 dX3_toChildren_49 rfl (e_getr mb_221 dX3_toChildren_50 mf_221.1 fs_12315 fk_3_6 (lk_27 hL) (lr_27_6 hL) (e_iload mb_221 dX3_toChildren_53 rfl (e_dup2 mb_221 dX3_toChildren_55 ⟨rfl, rfl⟩ (e_ial mb_221 dX3_toChildren_56 (lk_33 hL) (ll_33 hL) ((h.2 (cb_ge.2.mp q1)).2.1 q2).1 rfl (e_iload_n mb_221 dX3_toChildren_57 rfl (e_iload mb_221 dX3_toChildren_58 rfl (e_idiv mb_221 dX3_toChildren_60 ((h.2 (cb_ge.2.mp q1)).2.1 q2).2.1 (e_iload mb_221 dX3_toChildren_61 rfl (e_if mb_221 dX3_toChildren_63 rfl (fun q3 => e_iconst mb_221 dX3_toChildren_70 cv_iconst_0 (e_iadd mb_221 dX3_toChildren_71 (((h.2 (cb_ge.2.mp q1)).2.1 q2).2.2.1 (cb_le.1.mp q3)).1 (e_iadd mb_221 dX3_toChildren_72 (((h.2 (cb_ge.2.mp q1)).2.1 q2).2.2.1 (cb_le.1.mp q3)).2.1 (e_iastore mb_221 dX3_toChildren_73 (lk_33 hL) (ll_33 hL) (((h.2 (cb_ge.2.mp q1)).2.1 q2).2.2.1 (cb_le.1.mp q3)).2.2.1 (e_iinc (l1 := [some (aR (some 27)), some (aI x1), some (aI x2), some (aI x3), some (aI x4), some (aI (x5 + (-1))), some (aI x6)]) mb_221 dX3_toChildren_74 rfl (((h.2 (cb_ge.2.mp q1)).2.1 q2).2.2.1 (cb_le.1.mp q3)).2.2.2.1 rfl (e_iinc (l1 := [some (aR (some 27)), some (aI x1), some (aI x2), some (aI x3), some (aI x4), some (aI (x5 + (-1))), some (aI (x6 + 1))]) mb_221 dX3_toChildren_77 rfl (((h.2 (cb_ge.2.mp q1)).2.1 q2).2.2.1 (cb_le.1.mp q3)).2.2.2.2.1 rfl (e_goto mb_221 dX3_toChildren_80 rfl ((((h.2 (cb_ge.2.mp q1)).2.1 q2).2.2.1 (cb_le.1.mp q3)).2.2.2.2.2)))))))) (fun q3 => e_iconst mb_221 dX3_toChildren_66 cv_iconst_1 (e_goto mb_221 dX3_toChildren_67 rfl (e_iadd mb_221 dX3_toChildren_71 (((h.2 (cb_ge.2.mp q1)).2.1 q2).2.2.2 (cb_le.2.mp q3)).1 (e_iadd mb_221 dX3_toChildren_72 (((h.2 (cb_ge.2.mp q1)).2.1 q2).2.2.2 (cb_le.2.mp q3)).2.1 (e_iastore mb_221 dX3_toChildren_73 (lk_33 hL) (ll_33 hL) (((h.2 (cb_ge.2.mp q1)).2.1 q2).2.2.2 (cb_le.2.mp q3)).2.2.1 (e_iinc (l1 := [some (aR (some 27)), some (aI x1), some (aI x2), some (aI x3), some (aI x4), some (aI (x5 + (-1))), some (aI x6)]) mb_221 dX3_toChildren_74 rfl (((h.2 (cb_ge.2.mp q1)).2.1 q2).2.2.2 (cb_le.2.mp q3)).2.2.2.1 rfl (e_iinc (l1 := [some (aR (some 27)), some (aI x1), some (aI x2), some (aI x3), some (aI x4), some (aI (x5 + (-1))), some (aI (x6 + 1))]) mb_221 dX3_toChildren_77 rfl (((h.2 (cb_ge.2.mp q1)).2.1 q2).2.2.2 (cb_le.2.mp q3)).2.2.2.2.1 rfl (e_goto mb_221 dX3_toChildren_80 rfl ((((h.2 (cb_ge.2.mp q1)).2.1 q2).2.2.2 (cb_le.2.mp q3)).2.2.2.2.2)))))))))))))))))), fun q2 => e_iinc (l1 := [some (aR (some 27)), some (aI x1), some (aI x2), some (aI x3), some (aI x4), some (aI x5), some (aI (x6 + 1))]) mb_221 dX3_toChildren_77 rfl ((h.2 (cb_ge.2.mp q1)).2.2 q2).1 rfl (e_goto mb_221 dX3_toChildren_80 rfl (((h.2 (cb_ge.2.mp q1)).2.2 q2).2))⟩))))))))))
theorem v_221 {sc : Nat × (Nat → Int)} {I : IH} {L : LH} {R : RH} {K : KH} {Q : AQ} {a0 a1 a2 : Int} (hL : Lay R K) (hp : PsC I ∧ (0 ≤ a0 ∧ a0 < 30) ∧ (0 ≤ I 28 a0.toNat ∧ I 28 a0.toNat < 8) ∧ 0 ≤ a2 ∧ a2 ≤ 300000) (h : Q none (purH I 33 18 (chilP (I 33, I 18) (hrC I a0 a1) (I 28 a0.toNat).toNat a2)) L R K) : E sc 221 0 [some (aR (some 27)), some (aI a0), some (aI a1), some (aI a2), none, none, none] [] I L R K Q := by
  obtain ⟨⟨hn, hc, hk⟩, h0, h1, h2⟩ := hp
  have bk := hk (I 28 a0.toNat).toNat (by omega)
  refine w_221_0 hL ?_
  rw [lv_cnt hn]
  have bc := cntI_b (p := hrC I a0 a1) 30
  by_cases q : cntI (hrC I a0 a1) 30 = 0
  · rw [show chilP (I 33, I 18) (hrC I a0 a1) (I 28 a0.toNat).toNat a2 = chestP (I 33, I 18) (I 28 a0.toNat).toNat a2 by unfold chilP; rw [if_pos q]] at h
    rw [← purH_chest (by decide)] at h
    exact ⟨hn, fun q1 => absurd q q1, fun q1 => ⟨h0, h1, by omega, h1, h⟩⟩
  · have hd := div_b (x := a2) (h := cntI (hrC I a0 a1) 30) h2.1 (by omega)
    rw [show chilP (I 33, I 18) (hrC I a0 a1) (I 28 a0.toNat).toNat a2 = (evC (I 33) (hrC I a0 a1) a2 (cntI (hrC I a0 a1) 30), I 18) by unfold chilP; rw [if_neg q]] at h
    rw [← purH_tab] at h
    obtain ⟨n, hnn⟩ : ∃ n : Nat, I 27 9 = (n : Int) := ⟨(I 27 9).toNat, by omega⟩
    have key : (fun i : Nat => ∀ (ov x : Int), ov = a2 % cntI (hrC I a0 a1) 30 - cntI (hrC I a0 a1) i → x = (i : Int) → E sc 221 29 [some (aR (some 27)), some (aI a0), some (aI a1), some (aI a2), some (aI (cntI (hrC I a0 a1) 30)), some (aI ov), some (aI x)] [] (tabF I 33 (evK (I 33) (hrC I a0 a1) a2 (cntI (hrC I a0 a1) 30) i)) L R K Q) 0 := by
      refine loop_up (C := fun i : Nat => ∀ (ov x : Int), ov = a2 % cntI (hrC I a0 a1) 30 - cntI (hrC I a0 a1) i → x = (i : Int) → E sc 221 29 [some (aR (some 27)), some (aI a0), some (aI a1), some (aI a2), some (aI (cntI (hrC I a0 a1) 30)), some (aI ov), some (aI x)] [] (tabF I 33 (evK (I 33) (hrC I a0 a1) a2 (cntI (hrC I a0 a1) 30) i)) L R K Q) n ?_ ?_
      · intro i hi hcc ov x ho hx
        subst hx
        have bi := cntI_b (p := hrC I a0 a1) i
        have hci := hc i (by omega)
        have e33 : (tabF I 33 (evK (I 33) (hrC I a0 a1) a2 (cntI (hrC I a0 a1) 30) i)) 33 i = I 33 i := by
          show (if 33 = 33 then evK (I 33) (hrC I a0 a1) a2 (cntI (hrC I a0 a1) 30) i i else _) = _
          rw [if_pos rfl]
          unfold evK
          rw [if_neg (by omega)]
        have e279 : (tabF I 33 (evK (I 33) (hrC I a0 a1) a2 (cntI (hrC I a0 a1) 30) i)) 27 9 = I 27 9 := rfl
        refine w_221_29 hL ?_
        simp only [Int.toNat_natCast]
        rw [e33, e279]
        by_cases qh : I 29 i = a0 ∧ I 34 i = 0 ∧ (i : Int) ≠ a1
        · have hh : hrC I a0 a1 i = true := decide_eq_true ⟨by omega, qh⟩
          have es := cntI_s (p := hrC I a0 a1) (m := i)
          rw [if_pos hh] at es
          refine ⟨fun q1 => by omega, fun q1 => ⟨by omega, fun q2 => ⟨by omega, by omega, fun q3 => ⟨by omega, by omega, by omega, by omega, by omega, ?_⟩, fun q3 => ⟨by omega, by omega, by omega, by omega, by omega, ?_⟩⟩, fun q2 => absurd qh q2⟩⟩
          · have e := evK_yes (c := I 33) (x := a2) (h := cntI (hrC I a0 a1) 30) hh
            rw [if_neg (by omega)] at e
            rw [tabF_set, e]
            exact hcc _ _ (by omega) (by omega)
          · have e := evK_yes (c := I 33) (x := a2) (h := cntI (hrC I a0 a1) 30) hh
            rw [if_pos (by omega)] at e
            rw [tabF_set, e]
            exact hcc _ _ (by omega) (by omega)
        · have hh : ¬ hrC I a0 a1 i = true := fun g => qh (of_decide_eq_true g).2
          have es := cntI_s (p := hrC I a0 a1) (m := i)
          rw [if_neg hh] at es
          rw [evK_no hh] at hcc
          exact ⟨fun q1 => by omega, fun q1 => ⟨by omega, fun q2 => absurd q2 qh, fun q2 => ⟨by omega, hcc _ _ (by omega) (by omega)⟩⟩⟩
      · intro ov x ho hx
        subst hx
        have e279 : (tabF I 33 (evK (I 33) (hrC I a0 a1) a2 (cntI (hrC I a0 a1) 30) n)) 27 9 = I 27 9 := rfl
        rw [evK_all (fun j hj g => by have := of_decide_eq_true g; omega)]
        exact w_221_29 hL ⟨fun q1 => h, fun q1 => by have : (tabF I 33 (evC (I 33) (hrC I a0 a1) a2 (cntI (hrC I a0 a1) 30))) 27 9 = I 27 9 := rfl; omega⟩
    have k0 := key (a2 % cntI (hrC I a0 a1) 30) 0 (by show _ = _ - (0 : Int); omega) rfl
    rw [evK_0, tabF_id] at k0
    exact ⟨hn, fun q1 => ⟨by omega, k0⟩, fun q1 => absurd q1 q⟩
theorem w_220_0 {sc : Nat × (Nat → Int)} {I : IH} {L : LH} {R : RH} {K : KH} {Q : AQ} {a0 a1 a2 : Int} (hL : Lay R K) (h : ((0 ≤ a1 ∧ a1 < I 27 9 → ((0 ≤ a1 ∧ a1 < 30)) ∧ ((I 34 a1.toNat = 0 → (((0 : Int) ≤ a1 ∧ a1 < (30 : Int))) ∧ ((-2147483648 : Int) ≤ (I 33 a1.toNat) + a2 ∧ (I 33 a1.toNat) + a2 < (2147483648 : Int)) ∧ (((0 : Int) ≤ a1 ∧ a1 < (30 : Int))) ∧ Q none (setF I 33 a1.toNat ((I 33 a1.toNat) + a2)) L R K) ∧ (¬(I 34 a1.toNat = 0) → (((0 : Int) ≤ a0 ∧ a0 < (30 : Int))) ∧ (((0 : Int) ≤ I 28 a0.toNat ∧ I 28 a0.toNat < (8 : Int))) ∧ ((-2147483648 : Int) ≤ (I 18 ((I 28 a0.toNat).toNat)) + a2 ∧ (I 18 ((I 28 a0.toNat).toNat)) + a2 < (2147483648 : Int)) ∧ (((0 : Int) ≤ I 28 a0.toNat ∧ I 28 a0.toNat < (8 : Int))) ∧ Q none (setF I 18 ((I 28 a0.toNat).toNat) ((I 18 ((I 28 a0.toNat).toNat)) + a2)) L R K))) ∧ (¬(0 ≤ a1 ∧ a1 < I 27 9) → (((0 : Int) ≤ a0 ∧ a0 < (30 : Int))) ∧ (((0 : Int) ≤ I 28 a0.toNat ∧ I 28 a0.toNat < (8 : Int))) ∧ ((-2147483648 : Int) ≤ (I 18 ((I 28 a0.toNat).toNat)) + a2 ∧ (I 18 ((I 28 a0.toNat).toNat)) + a2 < (2147483648 : Int)) ∧ (((0 : Int) ≤ I 28 a0.toNat ∧ I 28 a0.toNat < (8 : Int))) ∧ Q none (setF I 18 ((I 28 a0.toNat).toNat) ((I 18 ((I 28 a0.toNat).toNat)) + a2)) L R K))) : E sc 220 0 [some (aR (some 27)), some (aI a0), some (aI a1), some (aI a2)] [] I L R K Q :=
  e_aload_n mb_220 dX3_toOne_0 rfl (e_iload_n mb_220 dX3_toOne_1 rfl (e_callV mb_220 dX3_toOne_2 mf_220 mf_205 cs_12375 rfl rfl rfl rfl (lk_27 hL) rfl (v_205 hL (show E _ _ _ _ (_ :: _) _ _ _ _ _ from e_ifb_eq mb_220 dX3_toOne_5 rfl ⟨fun q1 => e_aload_n mb_220 dX3_toOne_8 rfl (e_iload_n mb_220 dX3_toOne_9 rfl (e_callV mb_220 dX3_toOne_10 mf_220 mf_208 cs_12379 rfl rfl rfl rfl (lk_27 hL) rfl (v_208 hL (h.1 q1).1 (show E _ _ _ _ (_ :: _) _ _ _ _ _ from e_ifb_eq mb_220 dX3_toOne_13 rfl ⟨fun q2 => e_aload_n mb_220 dX3_toOne_16 rfl (e_getr mb_220 dX3_toOne_17 mf_220.1 fs_12315 fk_3_6 (lk_27 hL) (lr_27_6 hL) (e_iload_n mb_220 dX3_toOne_20 rfl (e_dup2 mb_220 dX3_toOne_21 ⟨rfl, rfl⟩ (e_ial mb_220 dX3_toOne_22 (lk_33 hL) (ll_33 hL) ((h.1 q1).2.1 q2).1 rfl (e_iload_n mb_220 dX3_toOne_23 rfl (e_iadd mb_220 dX3_toOne_24 ((h.1 q1).2.1 q2).2.1 (e_iastore mb_220 dX3_toOne_25 (lk_33 hL) (ll_33 hL) ((h.1 q1).2.1 q2).2.2.1 (e_goto mb_220 dX3_toOne_26 rfl (e_return mb_220 dX3_toOne_35 rv_220 ((h.1 q1).2.1 q2).2.2.2))))))))), fun q2 => e_aload_n mb_220 dX3_toOne_29 rfl (e_iload_n mb_220 dX3_toOne_30 rfl (e_iload_n mb_220 dX3_toOne_31 rfl (e_callV mb_220 dX3_toOne_32 mf_220 mf_222 cs_12359 rfl rfl rfl rfl (lk_27 hL) rfl (show E _ _ _ [some (aR (some 27)), some (aI a0), some (aI a2)] [] _ _ _ _ _ from e_aload_n mb_222 dX3_toChest_0 rfl (e_getr mb_222 dX3_toChest_1 mf_222.1 fs_12324 fk_3_0 (lk_27 hL) (lr_27_0 hL) (e_getr mb_222 dX3_toChest_4 mf_222.1 fs_12382 fk_1_4 (lk_14 hL) (lr_14_4 hL) (e_aload_n mb_222 dX3_toChest_7 rfl (e_getr mb_222 dX3_toChest_8 mf_222.1 fs_12299 fk_3_1 (lk_27 hL) (lr_27_1 hL) (e_iload_n mb_222 dX3_toChest_11 rfl (e_ial mb_222 dX3_toChest_12 (lk_28 hL) (ll_28 hL) ((h.1 q1).2.2 q2).1 rfl (e_dup2 mb_222 dX3_toChest_13 ⟨rfl, rfl⟩ (e_ial mb_222 dX3_toChest_14 (lk_18 hL) (ll_18 hL) ((h.1 q1).2.2 q2).2.1 rfl (e_iload_n mb_222 dX3_toChest_15 rfl (e_iadd mb_222 dX3_toChest_16 ((h.1 q1).2.2 q2).2.2.1 (e_iastore mb_222 dX3_toChest_17 (lk_18 hL) (ll_18 hL) ((h.1 q1).2.2 q2).2.2.2.1 (e_return mb_222 dX3_toChest_18 rv_222 (show E _ _ _ _ [] _ _ _ _ _ from e_return mb_220 dX3_toOne_35 rv_220 ((h.1 q1).2.2 q2).2.2.2.2)))))))))))))))))⟩)))), fun q1 => e_aload_n mb_220 dX3_toOne_29 rfl (e_iload_n mb_220 dX3_toOne_30 rfl (e_iload_n mb_220 dX3_toOne_31 rfl (e_callV mb_220 dX3_toOne_32 mf_220 mf_222 cs_12359 rfl rfl rfl rfl (lk_27 hL) rfl (show E _ _ _ [some (aR (some 27)), some (aI a0), some (aI a2)] [] _ _ _ _ _ from e_aload_n mb_222 dX3_toChest_0 rfl (e_getr mb_222 dX3_toChest_1 mf_222.1 fs_12324 fk_3_0 (lk_27 hL) (lr_27_0 hL) (e_getr mb_222 dX3_toChest_4 mf_222.1 fs_12382 fk_1_4 (lk_14 hL) (lr_14_4 hL) (e_aload_n mb_222 dX3_toChest_7 rfl (e_getr mb_222 dX3_toChest_8 mf_222.1 fs_12299 fk_3_1 (lk_27 hL) (lr_27_1 hL) (e_iload_n mb_222 dX3_toChest_11 rfl (e_ial mb_222 dX3_toChest_12 (lk_28 hL) (ll_28 hL) (h.2 q1).1 rfl (e_dup2 mb_222 dX3_toChest_13 ⟨rfl, rfl⟩ (e_ial mb_222 dX3_toChest_14 (lk_18 hL) (ll_18 hL) (h.2 q1).2.1 rfl (e_iload_n mb_222 dX3_toChest_15 rfl (e_iadd mb_222 dX3_toChest_16 (h.2 q1).2.2.1 (e_iastore mb_222 dX3_toChest_17 (lk_18 hL) (ll_18 hL) (h.2 q1).2.2.2.1 (e_return mb_222 dX3_toChest_18 rv_222 (show E _ _ _ _ [] _ _ _ _ _ from e_return mb_220 dX3_toOne_35 rv_220 (h.2 q1).2.2.2.2)))))))))))))))))⟩))))
theorem v_220 {sc : Nat × (Nat → Int)} {I : IH} {L : LH} {R : RH} {K : KH} {Q : AQ} {a0 a1 a2 : Int} (hL : Lay R K) (hp : PsC I ∧ (0 ≤ a0 ∧ a0 < 30) ∧ (0 ≤ I 28 a0.toNat ∧ I 28 a0.toNat < 8) ∧ 0 ≤ a2 ∧ a2 ≤ 300000) (h : Q none (purH I 33 18 (oneP (I 33, I 18) (alC I a1) a1.toNat (I 28 a0.toNat).toNat a2)) L R K) : E sc 220 0 [some (aR (some 27)), some (aI a0), some (aI a1), some (aI a2)] [] I L R K Q := by
  obtain ⟨⟨hn, hc, hk⟩, h0, h1, h2⟩ := hp
  have bk := hk (I 28 a0.toNat).toNat (by omega)
  refine w_220_0 hL ?_
  by_cases q : 0 ≤ a1 ∧ a1 < I 27 9 ∧ I 34 a1.toNat = 0
  · have ea : alC I a1 = true := decide_eq_true q
    rw [ea] at h
    rw [show oneP (I 33, I 18) true a1.toNat (I 28 a0.toNat).toNat a2 = (addR (I 33) a1.toNat a2, I 18) from rfl, ← purH_one (by decide)] at h
    have bc := hc a1.toNat (by omega)
    exact ⟨fun q1 => ⟨by omega, fun q2 => ⟨by omega, by omega, by omega, h⟩, fun q2 => absurd q.2.2 q2⟩, fun q1 => absurd ⟨q.1, q.2.1⟩ q1⟩
  · have ea : alC I a1 = false := decide_eq_false q
    rw [ea] at h
    rw [show oneP (I 33, I 18) false a1.toNat (I 28 a0.toNat).toNat a2 = chestP (I 33, I 18) (I 28 a0.toNat).toNat a2 from rfl, ← purH_chest (by decide)] at h
    exact ⟨fun q1 => ⟨by omega, fun q2 => absurd ⟨q1.1, q1.2, q2⟩ q, fun q2 => ⟨h0, h1, by omega, h1, h⟩⟩, fun q1 => ⟨h0, h1, by omega, h1, h⟩⟩
theorem w_130_0 {sc : Nat × (Nat → Int)} {I : IH} {L : LH} {R : RH} {K : KH} {Q : AQ} {a0 a1 a2 : Int} (hL : Lay R K) (h : ((0 ≤ I 77 31 ∧ I 77 31 ≤ 30)) ∧ ((a2 ≠ (-1) → ((-2147483648 : Int) ≤ (sumTo (fun (j : Nat) => (if I 103 j = a0 ∧ I 108 j = 0 then 1 else 0 : Int)) (I 77 31).toNat) - 1 ∧ (sumTo (fun (j : Nat) => (if I 103 j = a0 ∧ I 108 j = 0 then 1 else 0 : Int)) (I 77 31).toNat) - 1 < (2147483648 : Int)) ∧ ((((sumTo (fun (j : Nat) => (if I 103 j = a0 ∧ I 108 j = 0 then 1 else 0 : Int)) (I 77 31).toNat) - 1) ≠ 0 → (((0 : Int) ≤ a1 ∧ a1 < (2147483648 : Int)) ∧ (0 : Int) < ((sumTo (fun (j : Nat) => (if I 103 j = a0 ∧ I 108 j = 0 then 1 else 0 : Int)) (I 77 31).toNat) - 1) ∧ ((sumTo (fun (j : Nat) => (if I 103 j = a0 ∧ I 108 j = 0 then 1 else 0 : Int)) (I 77 31).toNat) - 1) < (2147483648 : Int)) ∧ E sc 130 48 [some (aR (some 77)), some (aI a0), some (aI a1), some (aI a2), some (aI ((sumTo (fun (j : Nat) => (if I 103 j = a0 ∧ I 108 j = 0 then 1 else 0 : Int)) (I 77 31).toNat) - 1)), some (aI (a1 % ((sumTo (fun (j : Nat) => (if I 103 j = a0 ∧ I 108 j = 0 then 1 else 0 : Int)) (I 77 31).toNat) - 1))), some (aI 0)] [] I L R K Q) ∧ (((sumTo (fun (j : Nat) => (if I 103 j = a0 ∧ I 108 j = 0 then 1 else 0 : Int)) (I 77 31).toNat) - 1) = 0 → (((0 : Int) ≤ a0 ∧ a0 < (30 : Int))) ∧ (((0 : Int) ≤ I 102 a0.toNat ∧ I 102 a0.toNat < (8 : Int))) ∧ ((-2147483648 : Int) ≤ (I 110 ((I 102 a0.toNat).toNat)) + a1 ∧ (I 110 ((I 102 a0.toNat).toNat)) + a1 < (2147483648 : Int)) ∧ (((0 : Int) ≤ I 102 a0.toNat ∧ I 102 a0.toNat < (8 : Int))) ∧ Q none (setF I 110 ((I 102 a0.toNat).toNat) ((I 110 ((I 102 a0.toNat).toNat)) + a1)) L R K))) ∧ (a2 = (-1) → ((-2147483648 : Int) ≤ (sumTo (fun (j : Nat) => (if I 103 j = a0 ∧ I 108 j = 0 then 1 else 0 : Int)) (I 77 31).toNat) - 0 ∧ (sumTo (fun (j : Nat) => (if I 103 j = a0 ∧ I 108 j = 0 then 1 else 0 : Int)) (I 77 31).toNat) - 0 < (2147483648 : Int)) ∧ ((((sumTo (fun (j : Nat) => (if I 103 j = a0 ∧ I 108 j = 0 then 1 else 0 : Int)) (I 77 31).toNat) - 0) ≠ 0 → (((0 : Int) ≤ a1 ∧ a1 < (2147483648 : Int)) ∧ (0 : Int) < ((sumTo (fun (j : Nat) => (if I 103 j = a0 ∧ I 108 j = 0 then 1 else 0 : Int)) (I 77 31).toNat) - 0) ∧ ((sumTo (fun (j : Nat) => (if I 103 j = a0 ∧ I 108 j = 0 then 1 else 0 : Int)) (I 77 31).toNat) - 0) < (2147483648 : Int)) ∧ E sc 130 48 [some (aR (some 77)), some (aI a0), some (aI a1), some (aI a2), some (aI ((sumTo (fun (j : Nat) => (if I 103 j = a0 ∧ I 108 j = 0 then 1 else 0 : Int)) (I 77 31).toNat) - 0)), some (aI (a1 % ((sumTo (fun (j : Nat) => (if I 103 j = a0 ∧ I 108 j = 0 then 1 else 0 : Int)) (I 77 31).toNat) - 0))), some (aI 0)] [] I L R K Q) ∧ (((sumTo (fun (j : Nat) => (if I 103 j = a0 ∧ I 108 j = 0 then 1 else 0 : Int)) (I 77 31).toNat) - 0) = 0 → (((0 : Int) ≤ a0 ∧ a0 < (30 : Int))) ∧ (((0 : Int) ≤ I 102 a0.toNat ∧ I 102 a0.toNat < (8 : Int))) ∧ ((-2147483648 : Int) ≤ (I 110 ((I 102 a0.toNat).toNat)) + a1 ∧ (I 110 ((I 102 a0.toNat).toNat)) + a1 < (2147483648 : Int)) ∧ (((0 : Int) ≤ I 102 a0.toNat ∧ I 102 a0.toNat < (8 : Int))) ∧ Q none (setF I 110 ((I 102 a0.toNat).toNat) ((I 110 ((I 102 a0.toNat).toNat)) + a1)) L R K))))) : E sc 130 0 [some (aR (some 77)), some (aI a0), some (aI a1), some (aI a2), none, none, none] [] I L R K Q :=
  e_aload_n mb_130 dX12_evenly_0 rfl (e_iload_n mb_130 dX12_evenly_1 rfl (e_callV mb_130 dX12_evenly_2 mf_130 mf_128 cs_49475 rfl rfl rfl rfl (lk_77 hL) rfl (v_128 hL h.1 (show E _ _ _ _ (_ :: _) _ _ _ _ _ from e_iload_n mb_130 dX12_evenly_5 rfl (e_iconst mb_130 dX12_evenly_6 cv_iconst_m1 (e_icmp mb_130 dX12_evenly_7 rfl (fun q1 => e_iconst mb_130 dX12_evenly_14 cv_iconst_1 (e_isub mb_130 dX12_evenly_15 (h.2.1 (cb_ne.1.mp q1)).1 (e_istore (l1 := [some (aR (some 77)), some (aI a0), some (aI a1), some (aI a2), some (aI ((sumTo (fun (j : Nat) => (if I 103 j = a0 ∧ I 108 j = 0 then 1 else 0 : Int)) (I 77 31).toNat) - 1)), none, none]) mb_130 dX12_evenly_16 rfl (e_iload mb_130 dX12_evenly_18 rfl (e_if mb_130 dX12_evenly_20 rfl (fun q2 => e_iload_n mb_130 dX12_evenly_39 rfl (e_iload mb_130 dX12_evenly_40 rfl (e_irem mb_130 dX12_evenly_42 ((h.2.1 (cb_ne.1.mp q1)).2.1 (cb_ne.1.mp q2)).1 (e_istore (l1 := [some (aR (some 77)), some (aI a0), some (aI a1), some (aI a2), some (aI ((sumTo (fun (j : Nat) => (if I 103 j = a0 ∧ I 108 j = 0 then 1 else 0 : Int)) (I 77 31).toNat) - 1)), some (aI (a1 % ((sumTo (fun (j : Nat) => (if I 103 j = a0 ∧ I 108 j = 0 then 1 else 0 : Int)) (I 77 31).toNat) - 1))), none]) mb_130 dX12_evenly_43 rfl (e_iconst mb_130 dX12_evenly_45 cv_iconst_0 (e_istore (l1 := [some (aR (some 77)), some (aI a0), some (aI a1), some (aI a2), some (aI ((sumTo (fun (j : Nat) => (if I 103 j = a0 ∧ I 108 j = 0 then 1 else 0 : Int)) (I 77 31).toNat) - 1)), some (aI (a1 % ((sumTo (fun (j : Nat) => (if I 103 j = a0 ∧ I 108 j = 0 then 1 else 0 : Int)) (I 77 31).toNat) - 1))), some (aI 0)]) mb_130 dX12_evenly_46 rfl (((h.2.1 (cb_ne.1.mp q1)).2.1 (cb_ne.1.mp q2)).2))))))) (fun q2 => e_aload_n mb_130 dX12_evenly_23 rfl (e_getr mb_130 dX12_evenly_24 mf_130.1 fs_49263 fk_12_40 (lk_77 hL) (lr_77_40 hL) (e_aload_n mb_130 dX12_evenly_27 rfl (e_getr mb_130 dX12_evenly_28 mf_130.1 fs_49239 fk_12_32 (lk_77 hL) (lr_77_32 hL) (e_iload_n mb_130 dX12_evenly_31 rfl (e_ial mb_130 dX12_evenly_32 (lk_102 hL) (ll_102 hL) ((h.2.1 (cb_ne.1.mp q1)).2.2 (cb_ne.2.mp q2)).1 rfl (e_dup2 mb_130 dX12_evenly_33 ⟨rfl, rfl⟩ (e_ial mb_130 dX12_evenly_34 (lk_110 hL) (ll_110 hL) ((h.2.1 (cb_ne.1.mp q1)).2.2 (cb_ne.2.mp q2)).2.1 rfl (e_iload_n mb_130 dX12_evenly_35 rfl (e_iadd mb_130 dX12_evenly_36 ((h.2.1 (cb_ne.1.mp q1)).2.2 (cb_ne.2.mp q2)).2.2.1 (e_iastore mb_130 dX12_evenly_37 (lk_110 hL) (ll_110 hL) ((h.2.1 (cb_ne.1.mp q1)).2.2 (cb_ne.2.mp q2)).2.2.2.1 (e_return mb_130 dX12_evenly_38 rv_130 ((h.2.1 (cb_ne.1.mp q1)).2.2 (cb_ne.2.mp q2)).2.2.2.2))))))))))))))))) (fun q1 => e_iconst mb_130 dX12_evenly_10 cv_iconst_0 (e_goto mb_130 dX12_evenly_11 rfl (e_isub mb_130 dX12_evenly_15 (h.2.2 (cb_ne.2.mp q1)).1 (e_istore (l1 := [some (aR (some 77)), some (aI a0), some (aI a1), some (aI a2), some (aI ((sumTo (fun (j : Nat) => (if I 103 j = a0 ∧ I 108 j = 0 then 1 else 0 : Int)) (I 77 31).toNat) - 0)), none, none]) mb_130 dX12_evenly_16 rfl (e_iload mb_130 dX12_evenly_18 rfl (e_if mb_130 dX12_evenly_20 rfl (fun q3 => e_iload_n mb_130 dX12_evenly_39 rfl (e_iload mb_130 dX12_evenly_40 rfl (e_irem mb_130 dX12_evenly_42 ((h.2.2 (cb_ne.2.mp q1)).2.1 (cb_ne.1.mp q3)).1 (e_istore (l1 := [some (aR (some 77)), some (aI a0), some (aI a1), some (aI a2), some (aI ((sumTo (fun (j : Nat) => (if I 103 j = a0 ∧ I 108 j = 0 then 1 else 0 : Int)) (I 77 31).toNat) - 0)), some (aI (a1 % ((sumTo (fun (j : Nat) => (if I 103 j = a0 ∧ I 108 j = 0 then 1 else 0 : Int)) (I 77 31).toNat) - 0))), none]) mb_130 dX12_evenly_43 rfl (e_iconst mb_130 dX12_evenly_45 cv_iconst_0 (e_istore (l1 := [some (aR (some 77)), some (aI a0), some (aI a1), some (aI a2), some (aI ((sumTo (fun (j : Nat) => (if I 103 j = a0 ∧ I 108 j = 0 then 1 else 0 : Int)) (I 77 31).toNat) - 0)), some (aI (a1 % ((sumTo (fun (j : Nat) => (if I 103 j = a0 ∧ I 108 j = 0 then 1 else 0 : Int)) (I 77 31).toNat) - 0))), some (aI 0)]) mb_130 dX12_evenly_46 rfl (((h.2.2 (cb_ne.2.mp q1)).2.1 (cb_ne.1.mp q3)).2))))))) (fun q3 => e_aload_n mb_130 dX12_evenly_23 rfl (e_getr mb_130 dX12_evenly_24 mf_130.1 fs_49263 fk_12_40 (lk_77 hL) (lr_77_40 hL) (e_aload_n mb_130 dX12_evenly_27 rfl (e_getr mb_130 dX12_evenly_28 mf_130.1 fs_49239 fk_12_32 (lk_77 hL) (lr_77_32 hL) (e_iload_n mb_130 dX12_evenly_31 rfl (e_ial mb_130 dX12_evenly_32 (lk_102 hL) (ll_102 hL) ((h.2.2 (cb_ne.2.mp q1)).2.2 (cb_ne.2.mp q3)).1 rfl (e_dup2 mb_130 dX12_evenly_33 ⟨rfl, rfl⟩ (e_ial mb_130 dX12_evenly_34 (lk_110 hL) (ll_110 hL) ((h.2.2 (cb_ne.2.mp q1)).2.2 (cb_ne.2.mp q3)).2.1 rfl (e_iload_n mb_130 dX12_evenly_35 rfl (e_iadd mb_130 dX12_evenly_36 ((h.2.2 (cb_ne.2.mp q1)).2.2 (cb_ne.2.mp q3)).2.2.1 (e_iastore mb_130 dX12_evenly_37 (lk_110 hL) (ll_110 hL) ((h.2.2 (cb_ne.2.mp q1)).2.2 (cb_ne.2.mp q3)).2.2.2.1 (e_return mb_130 dX12_evenly_38 rv_130 ((h.2.2 (cb_ne.2.mp q1)).2.2 (cb_ne.2.mp q3)).2.2.2.2))))))))))))))))))))))))
theorem w_130_48 {sc : Nat × (Nat → Int)} {I : IH} {L : LH} {R : RH} {K : KH} {Q : AQ} {x1 x2 x3 x4 x5 x6 : Int} (hL : Lay R K) (h : (((I 77 31) ≤ x6 → Q none I L R K) ∧ (x6 < (I 77 31) → ((0 ≤ x6 ∧ x6 < 30)) ∧ ((I 103 x6.toNat = x1 ∧ I 108 x6.toNat = 0 → ((x6 = x3 → ((-2147483648 : Int) ≤ x6 + 1 ∧ x6 + 1 < (2147483648 : Int)) ∧ E sc 130 48 [some (aR (some 77)), some (aI x1), some (aI x2), some (aI x3), some (aI x4), some (aI x5), some (aI (x6 + 1))] [] I L R K Q) ∧ (x6 ≠ x3 → (((0 : Int) ≤ x6 ∧ x6 < (30 : Int))) ∧ (((0 : Int) ≤ x2 ∧ x2 < (2147483648 : Int)) ∧ (0 : Int) < x4 ∧ x4 < (2147483648 : Int)) ∧ ((x5 ≤ 0 → ((-2147483648 : Int) ≤ (x2 / x4) + 0 ∧ (x2 / x4) + 0 < (2147483648 : Int)) ∧ ((-2147483648 : Int) ≤ (I 107 x6.toNat) + ((x2 / x4) + 0) ∧ (I 107 x6.toNat) + ((x2 / x4) + 0) < (2147483648 : Int)) ∧ (((0 : Int) ≤ x6 ∧ x6 < (30 : Int))) ∧ ((-2147483648 : Int) ≤ x5 + (-1) ∧ x5 + (-1) < (2147483648 : Int)) ∧ ((-2147483648 : Int) ≤ x6 + 1 ∧ x6 + 1 < (2147483648 : Int)) ∧ E sc 130 48 [some (aR (some 77)), some (aI x1), some (aI x2), some (aI x3), some (aI x4), some (aI (x5 + (-1))), some (aI (x6 + 1))] [] (setF I 107 x6.toNat ((I 107 x6.toNat) + ((x2 / x4) + 0))) L R K Q) ∧ (0 < x5 → ((-2147483648 : Int) ≤ (x2 / x4) + 1 ∧ (x2 / x4) + 1 < (2147483648 : Int)) ∧ ((-2147483648 : Int) ≤ (I 107 x6.toNat) + ((x2 / x4) + 1) ∧ (I 107 x6.toNat) + ((x2 / x4) + 1) < (2147483648 : Int)) ∧ (((0 : Int) ≤ x6 ∧ x6 < (30 : Int))) ∧ ((-2147483648 : Int) ≤ x5 + (-1) ∧ x5 + (-1) < (2147483648 : Int)) ∧ ((-2147483648 : Int) ≤ x6 + 1 ∧ x6 + 1 < (2147483648 : Int)) ∧ E sc 130 48 [some (aR (some 77)), some (aI x1), some (aI x2), some (aI x3), some (aI x4), some (aI (x5 + (-1))), some (aI (x6 + 1))] [] (setF I 107 x6.toNat ((I 107 x6.toNat) + ((x2 / x4) + 1))) L R K Q))))) ∧ (¬(I 103 x6.toNat = x1 ∧ I 108 x6.toNat = 0) → ((-2147483648 : Int) ≤ x6 + 1 ∧ x6 + 1 < (2147483648 : Int)) ∧ E sc 130 48 [some (aR (some 77)), some (aI x1), some (aI x2), some (aI x3), some (aI x4), some (aI x5), some (aI (x6 + 1))] [] I L R K Q))))) : E sc 130 48 [some (aR (some 77)), some (aI x1), some (aI x2), some (aI x3), some (aI x4), some (aI x5), some (aI x6)] [] I L R K Q :=
  e_iload mb_130 dX12_evenly_48 rfl (e_aload_n mb_130 dX12_evenly_50 rfl (e_getv mb_130 dX12_evenly_51 mf_130.1 fs_49439 (Or.inl fk_12_31) (lk_77 hL) rfl (e_icmp mb_130 dX12_evenly_54 rfl (fun q1 => e_return mb_130 dX12_evenly_107 rv_130 (h.1 (cb_ge.1.mp q1))) (fun q1 => e_aload_n mb_130 dX12_evenly_57 rfl (e_iload mb_130 dX12_evenly_58 rfl (e_iload_n mb_130 dX12_evenly_60 rfl (e_callV mb_130 dX12_evenly_61 mf_130 mf_127 cs_49472 rfl rfl rfl rfl (lk_77 hL) rfl (v_127 hL (h.2 (cb_ge.2.mp q1)).1 (show E _ _ _ _ (_ :: _) _ _ _ _ _ from e_ifb_eq mb_130 dX12_evenly_64 rfl ⟨fun q2 => e_iload mb_130 dX12_evenly_67 rfl (e_iload_n mb_130 dX12_evenly_69 rfl (e_icmp mb_130 dX12_evenly_70 rfl (fun q3 => e_iinc (l1 := [some (aR (some 77)), some (aI x1), some (aI x2), some (aI x3), some (aI x4), some (aI x5), some (aI (x6 + 1))]) mb_130 dX12_evenly_101 rfl (((h.2 (cb_ge.2.mp q1)).2.1 q2).1 (cb_eq.1.mp q3)).1 rfl (e_goto mb_130 dX12_evenly_104 rfl ((((h.2 (cb_ge.2.mp q1)).2.1 q2).1 (cb_eq.1.mp q3)).2))) (fun q3 => e_aload_n mb_130 dX12_evenly_73 rfl (e_getr mb_130 dX12_evenly_74 mf_130.1 fs_49254 fk_12_37 (lk_77 hL) (lr_77_37 hL) (e_iload mb_130 dX12_evenly_77 rfl (e_dup2 mb_130 dX12_evenly_79 ⟨rfl, rfl⟩ (e_ial mb_130 dX12_evenly_80 (lk_107 hL) (ll_107 hL) (((h.2 (cb_ge.2.mp q1)).2.1 q2).2 (cb_eq.2.mp q3)).1 rfl (e_iload_n mb_130 dX12_evenly_81 rfl (e_iload mb_130 dX12_evenly_82 rfl (e_idiv mb_130 dX12_evenly_84 (((h.2 (cb_ge.2.mp q1)).2.1 q2).2 (cb_eq.2.mp q3)).2.1 (e_iload mb_130 dX12_evenly_85 rfl (e_if mb_130 dX12_evenly_87 rfl (fun q4 => e_iconst mb_130 dX12_evenly_94 cv_iconst_0 (e_iadd mb_130 dX12_evenly_95 ((((h.2 (cb_ge.2.mp q1)).2.1 q2).2 (cb_eq.2.mp q3)).2.2.1 (cb_le.1.mp q4)).1 (e_iadd mb_130 dX12_evenly_96 ((((h.2 (cb_ge.2.mp q1)).2.1 q2).2 (cb_eq.2.mp q3)).2.2.1 (cb_le.1.mp q4)).2.1 (e_iastore mb_130 dX12_evenly_97 (lk_107 hL) (ll_107 hL) ((((h.2 (cb_ge.2.mp q1)).2.1 q2).2 (cb_eq.2.mp q3)).2.2.1 (cb_le.1.mp q4)).2.2.1 (e_iinc (l1 := [some (aR (some 77)), some (aI x1), some (aI x2), some (aI x3), some (aI x4), some (aI (x5 + (-1))), some (aI x6)]) mb_130 dX12_evenly_98 rfl ((((h.2 (cb_ge.2.mp q1)).2.1 q2).2 (cb_eq.2.mp q3)).2.2.1 (cb_le.1.mp q4)).2.2.2.1 rfl (e_iinc (l1 := [some (aR (some 77)), some (aI x1), some (aI x2), some (aI x3), some (aI x4), some (aI (x5 + (-1))), some (aI (x6 + 1))]) mb_130 dX12_evenly_101 rfl ((((h.2 (cb_ge.2.mp q1)).2.1 q2).2 (cb_eq.2.mp q3)).2.2.1 (cb_le.1.mp q4)).2.2.2.2.1 rfl (e_goto mb_130 dX12_evenly_104 rfl (((((h.2 (cb_ge.2.mp q1)).2.1 q2).2 (cb_eq.2.mp q3)).2.2.1 (cb_le.1.mp q4)).2.2.2.2.2)))))))) (fun q4 => e_iconst mb_130 dX12_evenly_90 cv_iconst_1 (e_goto mb_130 dX12_evenly_91 rfl (e_iadd mb_130 dX12_evenly_95 ((((h.2 (cb_ge.2.mp q1)).2.1 q2).2 (cb_eq.2.mp q3)).2.2.2 (cb_le.2.mp q4)).1 (e_iadd mb_130 dX12_evenly_96 ((((h.2 (cb_ge.2.mp q1)).2.1 q2).2 (cb_eq.2.mp q3)).2.2.2 (cb_le.2.mp q4)).2.1 (e_iastore mb_130 dX12_evenly_97 (lk_107 hL) (ll_107 hL) ((((h.2 (cb_ge.2.mp q1)).2.1 q2).2 (cb_eq.2.mp q3)).2.2.2 (cb_le.2.mp q4)).2.2.1 (e_iinc (l1 := [some (aR (some 77)), some (aI x1), some (aI x2), some (aI x3), some (aI x4), some (aI (x5 + (-1))), some (aI x6)]) mb_130 dX12_evenly_98 rfl ((((h.2 (cb_ge.2.mp q1)).2.1 q2).2 (cb_eq.2.mp q3)).2.2.2 (cb_le.2.mp q4)).2.2.2.1 rfl (e_iinc (l1 := [some (aR (some 77)), some (aI x1), some (aI x2), some (aI x3), some (aI x4), some (aI (x5 + (-1))), some (aI (x6 + 1))]) mb_130 dX12_evenly_101 rfl ((((h.2 (cb_ge.2.mp q1)).2.1 q2).2 (cb_eq.2.mp q3)).2.2.2 (cb_le.2.mp q4)).2.2.2.2.1 rfl (e_goto mb_130 dX12_evenly_104 rfl (((((h.2 (cb_ge.2.mp q1)).2.1 q2).2 (cb_eq.2.mp q3)).2.2.2 (cb_le.2.mp q4)).2.2.2.2.2))))))))))))))))))))), fun q2 => e_iinc (l1 := [some (aR (some 77)), some (aI x1), some (aI x2), some (aI x3), some (aI x4), some (aI x5), some (aI (x6 + 1))]) mb_130 dX12_evenly_101 rfl ((h.2 (cb_ge.2.mp q1)).2.2 q2).1 rfl (e_goto mb_130 dX12_evenly_104 rfl (((h.2 (cb_ge.2.mp q1)).2.2 q2).2))⟩)))))))))
theorem v_130 {sc : Nat × (Nat → Int)} {I : IH} {L : LH} {R : RH} {K : KH} {Q : AQ} {a0 a1 a2 : Int} (hL : Lay R K) (hp : PsM I ∧ (0 ≤ a0 ∧ a0 < 30) ∧ (0 ≤ I 102 a0.toNat ∧ I 102 a0.toNat < 8) ∧ (0 ≤ a1 ∧ a1 ≤ 300000) ∧ (a2 = -1 ∨ (0 ≤ a2 ∧ hrM I a0 (-1) a2.toNat = true))) (h : Q none (purH I 107 110 (chilP (I 107, I 110) (hrM I a0 a2) (I 102 a0.toNat).toNat a1)) L R K) : E sc 130 0 [some (aR (some 77)), some (aI a0), some (aI a1), some (aI a2), none, none, none] [] I L R K Q := by
  obtain ⟨⟨hn, hc, hk⟩, h0, h1, h2, hb⟩ := hp
  have bk := hk (I 102 a0.toNat).toNat (by omega)
  have bc := cntI_b (p := hrM I a0 a2) 30
  have ecnt : ∀ y : Int, y = cntI (hrM I a0 a2) 30 → (y ≠ 0 → (((0 : Int) ≤ a1 ∧ a1 < (2147483648 : Int)) ∧ (0 : Int) < y ∧ y < (2147483648 : Int)) ∧ E sc 130 48 [some (aR (some 77)), some (aI a0), some (aI a1), some (aI a2), some (aI y), some (aI (a1 % y)), some (aI 0)] [] I L R K Q) ∧ (y = 0 → (((0 : Int) ≤ a0 ∧ a0 < (30 : Int))) ∧ (((0 : Int) ≤ I 102 a0.toNat ∧ I 102 a0.toNat < (8 : Int))) ∧ ((-2147483648 : Int) ≤ (I 110 ((I 102 a0.toNat).toNat)) + a1 ∧ (I 110 ((I 102 a0.toNat).toNat)) + a1 < (2147483648 : Int)) ∧ (((0 : Int) ≤ I 102 a0.toNat ∧ I 102 a0.toNat < (8 : Int))) ∧ Q none (setF I 110 ((I 102 a0.toNat).toNat) ((I 110 ((I 102 a0.toNat).toNat)) + a1)) L R K) := by
    intro y hy
    subst hy
    by_cases q : cntI (hrM I a0 a2) 30 = 0
    · rw [show chilP (I 107, I 110) (hrM I a0 a2) (I 102 a0.toNat).toNat a1 = chestP (I 107, I 110) (I 102 a0.toNat).toNat a1 by unfold chilP; rw [if_pos q]] at h
      rw [← purH_chest (by decide)] at h
      exact ⟨fun q1 => absurd q q1, fun q1 => ⟨h0, h1, by omega, h1, h⟩⟩
    · have hd := div_b (x := a1) (h := cntI (hrM I a0 a2) 30) h2.1 (by omega)
      rw [show chilP (I 107, I 110) (hrM I a0 a2) (I 102 a0.toNat).toNat a1 = (evC (I 107) (hrM I a0 a2) a1 (cntI (hrM I a0 a2) 30), I 110) by unfold chilP; rw [if_neg q]] at h
      rw [← purH_tab] at h
      obtain ⟨n, hnn⟩ : ∃ n : Nat, I 77 31 = (n : Int) := ⟨(I 77 31).toNat, by omega⟩
      have key : (fun i : Nat => ∀ (ov x : Int), ov = a1 % cntI (hrM I a0 a2) 30 - cntI (hrM I a0 a2) i → x = (i : Int) → E sc 130 48 [some (aR (some 77)), some (aI a0), some (aI a1), some (aI a2), some (aI (cntI (hrM I a0 a2) 30)), some (aI ov), some (aI x)] [] (tabF I 107 (evK (I 107) (hrM I a0 a2) a1 (cntI (hrM I a0 a2) 30) i)) L R K Q) 0 := by
        refine loop_up (C := fun i : Nat => ∀ (ov x : Int), ov = a1 % cntI (hrM I a0 a2) 30 - cntI (hrM I a0 a2) i → x = (i : Int) → E sc 130 48 [some (aR (some 77)), some (aI a0), some (aI a1), some (aI a2), some (aI (cntI (hrM I a0 a2) 30)), some (aI ov), some (aI x)] [] (tabF I 107 (evK (I 107) (hrM I a0 a2) a1 (cntI (hrM I a0 a2) 30) i)) L R K Q) n ?_ ?_
        · intro i hi hcc ov x ho hx
          subst hx
          have bi := cntI_b (p := hrM I a0 a2) i
          have hci := hc i (by omega)
          have e33 : (tabF I 107 (evK (I 107) (hrM I a0 a2) a1 (cntI (hrM I a0 a2) 30) i)) 107 i = I 107 i := by
            show (if 107 = 107 then evK (I 107) (hrM I a0 a2) a1 (cntI (hrM I a0 a2) 30) i i else _) = _
            rw [if_pos rfl]
            unfold evK
            rw [if_neg (by omega)]
          have e279 : (tabF I 107 (evK (I 107) (hrM I a0 a2) a1 (cntI (hrM I a0 a2) 30) i)) 77 31 = I 77 31 := rfl
          refine w_130_48 hL ?_
          simp only [Int.toNat_natCast]
          rw [e33, e279]
          by_cases qh : I 103 i = a0 ∧ I 108 i = 0
          · by_cases qb : (i : Int) = a2
            · have hh : ¬ hrM I a0 a2 i = true := fun g => (of_decide_eq_true g).2.2.2 qb
              have es := cntI_s (p := hrM I a0 a2) (m := i)
              rw [if_neg hh] at es
              rw [evK_no hh] at hcc
              exact ⟨fun q1 => by omega, fun q1 => ⟨by omega, fun q2 => ⟨fun q3 => ⟨by omega, hcc _ _ (by omega) (by omega)⟩, fun q3 => absurd qb q3⟩, fun q2 => absurd qh q2⟩⟩
            · have hh : hrM I a0 a2 i = true := decide_eq_true ⟨by omega, qh.1, qh.2, qb⟩
              have es := cntI_s (p := hrM I a0 a2) (m := i)
              rw [if_pos hh] at es
              refine ⟨fun q1 => by omega, fun q1 => ⟨by omega, fun q2 => ⟨fun q3 => absurd q3 qb, fun q3 => ⟨by omega, by omega, fun q4 => ⟨by omega, by omega, by omega, by omega, by omega, ?_⟩, fun q4 => ⟨by omega, by omega, by omega, by omega, by omega, ?_⟩⟩⟩, fun q2 => absurd qh q2⟩⟩
              · have e := evK_yes (c := I 107) (x := a1) (h := cntI (hrM I a0 a2) 30) hh
                rw [if_neg (by omega)] at e
                rw [tabF_set, e]
                exact hcc _ _ (by omega) (by omega)
              · have e := evK_yes (c := I 107) (x := a1) (h := cntI (hrM I a0 a2) 30) hh
                rw [if_pos (by omega)] at e
                rw [tabF_set, e]
                exact hcc _ _ (by omega) (by omega)
          · have hh : ¬ hrM I a0 a2 i = true := fun g => qh ⟨(of_decide_eq_true g).2.1, (of_decide_eq_true g).2.2.1⟩
            have es := cntI_s (p := hrM I a0 a2) (m := i)
            rw [if_neg hh] at es
            rw [evK_no hh] at hcc
            exact ⟨fun q1 => by omega, fun q1 => ⟨by omega, fun q2 => absurd q2 qh, fun q2 => ⟨by omega, hcc _ _ (by omega) (by omega)⟩⟩⟩
        · intro ov x ho hx
          subst hx
          rw [evK_all (fun j hj g => by have := of_decide_eq_true g; omega)]
          exact w_130_48 hL ⟨fun q1 => h, fun q1 => by have : (tabF I 107 (evC (I 107) (hrM I a0 a2) a1 (cntI (hrM I a0 a2) 30))) 77 31 = I 77 31 := rfl; omega⟩
      have k0 := key (a1 % cntI (hrM I a0 a2) 30) 0 (by show _ = _ - (0 : Int); omega) rfl
      rw [evK_0, tabF_id] at k0
      exact ⟨fun q1 => ⟨by omega, k0⟩, fun q1 => absurd q1 q⟩
  refine w_130_0 hL ?_
  rw [ch_cnt hn]
  have b1 := cntI_b (p := hrM I a0 (-1)) 30
  refine ⟨hn, fun q1 => ⟨by omega, ecnt _ ?_⟩, fun q1 => ⟨by omega, ecnt _ ?_⟩⟩
  · rcases hb with g | g
    · exact absurd g q1
    · rw [cnt_but hn g.1 g.2]
  · rw [q1]; omega
