/-! keeps: what a writing keeps -/
def folI (I : IH) (c : Int) : Int := sumTo (fun j => (if I 93 j = c then I 94 j else 0 : Int)) (I 77 18).toNat
def cusI (I : IH) (c s : Int) : Int := if 0 < folI I c then ansM I c 1 3 s (I 77 0) (I 77 0) else -3
def conP (I : IH) (s e : Int) (m : Nat) : Int := sumTo (fun (c : Nat) => (if cusI I (c : Int) s = e then folI I (c : Int) else 0 : Int)) m
def conI (I : IH) (s e : Int) : Int := if 0 ≤ e then conP I s e 5 else 0
def tpI (I : IH) (t : Nat → Nat) (s : Int) : Nat → Int
  | 0 => tmV I 5 4 4 s (I 77 0) (I 77 0) (-1) (I 77 7).toNat
  | k + 1 => if 0 < I 111 k ∧ fitsM I (80 + 3 * k + t k) s = true then jn (tpI I t s k) (I 112 (3 * k + t k)) (I 79 (80 + 3 * k + t k)) else tpI I t s k
def kepI (I : IH) (t : Nat → Nat) (s : Int) : Int := conI I s (tpI I t s 5 % 256 - 3)
def KepI (I : IH) (t : Nat → Nat) (m : Nat) : Int := sumTo (fun (s : Nat) => kepI I t (s : Int)) m
def dgW (w : Int) : Nat → Nat := fun k => w.toNat / 4 ^ k % 4
def DigOK (I : IH) (t : Nat → Nat) : Prop := ∀ k, k < 5 → (I 111 k ≤ 0 → t k = 0) ∧ (0 < I 111 k → (t k : Int) < I 111 k)
theorem fol_b {N : Nat} {I : IH} {L : LH} {R : RH} {K : KH} (hI : Inv N I L R K) {c : Int} : 0 ≤ folI I c ∧ folI I c ≤ 792 := by
  have hD := iD hI
  have key : ∀ m : Nat, m ≤ 8 → 0 ≤ sumTo (fun j => (if I 93 j = c then I 94 j else 0 : Int)) m ∧ sumTo (fun j => (if I 93 j = c then I 94 j else 0 : Int)) m ≤ 99 * m := by
    intro m
    induction m with
    | zero => intro _; exact ⟨Int.le_refl _, Int.le_refl _⟩
    | succ m ih =>
      intro hm
      have h1 := ih (by omega)
      have h2 := hD.2.2.2.1 m (by omega)
      rw [sumTo_succ]
      show 0 ≤ _ + (if I 93 m = c then I 94 m else 0 : Int) ∧ _ + (if I 93 m = c then I 94 m else 0 : Int) ≤ _
      split <;> omega
  have d2 := hD.2.1
  have d3 := hD.2.2.1
  have := key (I 77 18).toNat (by omega)
  unfold folI
  omega
theorem conP_b {N : Nat} {I : IH} {L : LH} {R : RH} {K : KH} (hI : Inv N I L R K) {s e : Int} : ∀ m : Nat, 0 ≤ conP I s e m ∧ conP I s e m ≤ 792 * m := by
  intro m
  induction m with
  | zero => exact ⟨Int.le_refl _, Int.le_refl _⟩
  | succ m ih =>
    have h2 := fol_b hI (c := (m : Int))
    unfold conP at ih ⊢
    rw [sumTo_succ]
    show 0 ≤ _ + (if cusI I (m : Int) s = e then folI I (m : Int) else 0 : Int) ∧ _ + (if cusI I (m : Int) s = e then folI I (m : Int) else 0 : Int) ≤ _
    split <;> omega
theorem kep_b {N : Nat} {I : IH} {L : LH} {R : RH} {K : KH} (hI : Inv N I L R K) {t : Nat → Nat} {s : Int} : 0 ≤ kepI I t s ∧ kepI I t s ≤ 3960 := by
  unfold kepI conI
  split
  · have := conP_b hI (s := s) (e := tpI I t s 5 % 256 - 3) 5
    omega
  · omega
theorem Kep_b {N : Nat} {I : IH} {L : LH} {R : RH} {K : KH} (hI : Inv N I L R K) {t : Nat → Nat} : ∀ m : Nat, 0 ≤ KepI I t m ∧ KepI I t m ≤ 3960 * m := by
  intro m
  induction m with
  | zero => exact ⟨Int.le_refl _, Int.le_refl _⟩
  | succ m ih =>
    have h2 := kep_b hI (t := t) (s := (m : Int))
    unfold KepI at ih ⊢
    rw [sumTo_succ]
    omega
theorem tmN_rng {N : Nat} {I : IH} {L : LH} {R : RH} {K : KH} (hI : Inv N I L R K) {b lo hi s a k : Int} : 0 ≤ tmV I b lo hi s a k (-1) (I 77 7).toNat ∧ tmV I b lo hi s a k (-1) (I 77 7).toNat < 65536 := by
  have hR := iR hI
  obtain ⟨r1, r2, r3, r4, -⟩ := hR
  exact topF_rng (m := (I 77 7).toNat) (fun i hi => by
    have g := (r4 i (by omega)).2
    show (0 ≤ I 85 i ∧ I 85 i ≤ 9) ∧ 0 ≤ I 79 (if (i : Int) = -1 then 95 else i) ∧ I 79 (if (i : Int) = -1 then 95 else i) ≤ 203
    rw [if_neg (by omega)]
    have e := g.2.2.2.2.2.2.2.2.2.2.2.2.1.2.1
    exact ⟨g.2.2.2.1.2, by omega⟩) (I 77 7).toNat (Nat.le_refl _)
theorem way_at {N : Nat} {I : IH} {L : LH} {R : RH} {K : KH} (hI : Inv N I L R K) {t : Nat → Nat} (ht : DigOK I t) {k : Nat} (hk : k < 5) (h0 : 0 < I 111 k) : R 37 (3 * k + t k) = some (rf R 37 (3 * k + t k)) ∧ TextEq I L R K (rf R 37 (3 * k + t k)) (80 + 3 * k + t k) ∧ (I 38 (3 * k + t k) = I 112 (3 * k + t k) ∧ 0 ≤ I 112 (3 * k + t k) ∧ I 112 (3 * k + t k) ≤ 9) ∧ t k < 3 := by
  have hW := iW hI
  have h1 := hW.1 k hk
  have h2 := (ht k hk).2 h0
  have h3 := hW.2 k (t k) hk h2
  exact ⟨h3.1, h3.2.1, h3.2.2.1, by omega⟩
theorem tp_rng {N : Nat} {I : IH} {L : LH} {R : RH} {K : KH} (hI : Inv N I L R K) {t : Nat → Nat} (ht : DigOK I t) {s : Int} : ∀ k, k ≤ 5 → 0 ≤ tpI I t s k ∧ tpI I t s k < 65536 := by
  intro k
  induction k with
  | zero => intro _; exact tmN_rng hI
  | succ k ih =>
    intro hk
    have h1 := ih (by omega)
    rw [tpI]
    by_cases q : 0 < I 111 k ∧ fitsM I (80 + 3 * k + t k) s = true
    · rw [if_pos q]
      have h2 := way_at hI ht (by omega) q.1
      have e := h2.2.1.2.1
      exact jn_rng h1 h2.2.2.1.2 (by omega)
    · rw [if_neg q]; exact h1
def NearS (I : IH) (R : RH) (J : IH) : Prop := Sg I J ∧ GathS J R (I 77 0) (I 77 0) ∧ ∀ c : Nat, c < 5 → J 40 c = folI I (c : Int)
theorem gath_fr {B J : IH} {L : LH} {R : RH} {K : KH} {a k : Int} (hR : RulesOK B R K) (hG : GathS B R a k) (hs : Sg B J) (h5 : ∀ x j, 5 ≤ x → x ≤ 12 → J x j = B x j) : GathS J R a k := by
  refine gathS_sg (L := L) hR hs (fun g hg => ?_)
  obtain ⟨h1, h2⟩ := hG g hg
  refine ⟨by rw [h5 12 g (by omega) (by omega)]; exact h1, fun i hi hp => ?_⟩
  rw [h5 (5 + g) _ (by omega) (by omega)]
  exact h2 i hi hp
theorem NearS.st {N : Nat} {I J J2 : IH} {L : LH} {R : RH} {K : KH} (hI : Inv N I L R K) (h : NearS I R J) (hs : ∀ x j, x ≠ 41 → x ≠ 42 → x ≠ 43 → x ≠ 44 → ¬ (x = 36 ∧ j = 8) → J2 x j = J x j) : NearS I R J2 := by
  have hsg : Sg J J2 := fun x j q => hs x j (fun e => q (by unfold S0; omega)) (fun e => q (by unfold S0; omega)) (fun e => q (by unfold S0; omega)) (fun e => q (by unfold S0; omega)) (fun e => q (by unfold S0; omega))
  have hR := rulesOK_sg (rules_ok (iR hI)) h.1
  exact ⟨sg_t h.1 hsg, gath_fr (L := L) hR h.2.1 hsg (fun x j h1 h2 => hs x j (by omega) (by omega) (by omega) (by omega) (by omega)), fun c hc => by rw [hs 40 c (by omega) (by omega) (by omega) (by omega) (by omega)]; exact h.2.2 c hc⟩
theorem near_rules {N : Nat} {I J : IH} {L : LH} {R : RH} {K : KH} (hI : Inv N I L R K) (h : NearS I R J) : RulesOK J R K := rulesOK_sg (rules_ok (iR hI)) h.1
theorem near_cus {N : Nat} {I J : IH} {L : LH} {R : RH} {K : KH} (hI : Inv N I L R K) (h : NearS I R J) {c s : Int} (hc : 0 ≤ c ∧ c < 5) (hs : 0 ≤ s ∧ s < 1536) : ansT J L R c s (I 77 0) (I 77 0) (-1) % 256 - 3 = ansM I c 1 3 s (I 77 0) (I 77 0) := by
  rw [ansT_sg (rules_ok (iR hI)) h.1 lg_r, top_eq hI hs (.inl ⟨hc.1, by omega, rfl, rfl, rfl⟩)]
  rfl
theorem near_top {N : Nat} {I J : IH} {L : LH} {R : RH} {K : KH} (hI : Inv N I L R K) (h : NearS I R J) {t : Nat → Nat} {s : Int} (hs : 0 ≤ s ∧ s < 1536) : ansT J L R 5 s (I 77 0) (I 77 0) (-1) = tpI I t s 0 := by
  rw [ansT_sg (rules_ok (iR hI)) h.1 lg_r, top_eq hI hs (.inr (.inl ⟨rfl, rfl, rfl, rfl⟩))]
  rfl
theorem w_312_0 {sc : Nat × (Nat → Int)} {I : IH} {L : LH} {R : RH} {K : KH} {Q : AQ} {a0 : Int} (hL : Lay R K) (h : ((RulesOK I R K)) ∧ (∀ (J1 : IH), (Sg I J1) → (∀ a j, ¬(5 ≤ a ∧ a ≤ 12) → J1 a j = I a j) → (GathS J1 R a0 a0) → E sc 312 11 [some (aR (some 36)), some (aI a0), some (aI 0)] [] J1 L R K Q)) : E sc 312 0 [some (aR (some 36)), some (aI a0), none] [] I L R K Q :=
  e_aload_n mb_312 dX10_prepare_0 rfl (e_getr mb_312 dX10_prepare_1 mf_312.1 fs_40999 fk_10_0 (lk_36 hL) (lr_36_0 hL) (e_iload_n mb_312 dX10_prepare_4 rfl (e_iload_n mb_312 dX10_prepare_5 rfl (e_callV mb_312 dX10_prepare_6 mf_312 mf_235 cs_41081 rfl rfl rfl rfl (lk_2 hL) rfl (v_235s hL h.1 (fun J1 hp2 hp3 hp4 => (show E _ _ _ _ [] _ _ _ _ _ from e_iconst mb_312 dX10_prepare_9 cv_iconst_0 (e_istore_n (l1 := [some (aR (some 36)), some (aI a0), some (aI 0)]) mb_312 dX10_prepare_10 rfl ((h.2 J1 hp2 hp3 hp4))))))))))
theorem w_312_11 {sc : Nat × (Nat → Int)} {I : IH} {L : LH} {R : RH} {K : KH} {Q : AQ} {x2 : Int} {o1 : Option AV} (no1 : nL o1) (hL : Lay R K) (h : ((5 ≤ x2 → Q none I L R K) ∧ (x2 < 5 → ((0 ≤ I 14 8 ∧ I 14 8 ≤ 8) ∧ (∀ j, j < 8 → 0 ≤ I 16 j ∧ I 16 j ≤ 99)) ∧ (((0 : Int) ≤ x2 ∧ x2 < (5 : Int))) ∧ ((-2147483648 : Int) ≤ x2 + 1 ∧ x2 + 1 < (2147483648 : Int)) ∧ E sc 312 11 [some (aR (some 36)), o1, some (aI (x2 + 1))] [] (setF I 40 x2.toNat (sumTo (fun (j : Nat) => (if I 15 j = x2 then I 16 j else 0 : Int)) (I 14 8).toNat)) L R K Q))) : E sc 312 11 [some (aR (some 36)), o1, some (aI x2)] [] I L R K Q :=
  e_iload_n mb_312 dX10_prepare_11 rfl (e_iconst mb_312 dX10_prepare_12 cv_iconst_5 (e_icmp mb_312 dX10_prepare_13 rfl (fun q1 => e_return mb_312 dX10_prepare_36 rv_312 (h.1 (cb_ge.1.mp q1))) (fun q1 => e_aload_n mb_312 dX10_prepare_16 rfl (e_getr mb_312 dX10_prepare_17 mf_312.1 fs_40984 fk_10_5 (lk_36 hL) (lr_36_5 hL) (e_iload_n mb_312 dX10_prepare_20 rfl (e_aload_n mb_312 dX10_prepare_21 rfl (e_getr mb_312 dX10_prepare_22 mf_312.1 fs_41003 fk_10_1 (lk_36 hL) (lr_36_1 hL) (e_iload_n mb_312 dX10_prepare_25 rfl (e_callV mb_312 dX10_prepare_26 mf_312 mf_190 cs_41085 rfl rfl rfl rfl (lk_14 hL) rfl (v_190 hL (h.2 (cb_ge.2.mp q1)).1.1 (h.2 (cb_ge.2.mp q1)).1.2 (show E _ _ _ _ (_ :: _) _ _ _ _ _ from e_iastore mb_312 dX10_prepare_29 (lk_40 hL) (ll_40 hL) (h.2 (cb_ge.2.mp q1)).2.1 (e_iinc (l1 := [some (aR (some 36)), o1, some (aI (x2 + 1))]) mb_312 dX10_prepare_30 rfl (h.2 (cb_ge.2.mp q1)).2.2.1 (aset_nl no1 rfl rfl rfl) (e_goto mb_312 dX10_prepare_33 rfl ((h.2 (cb_ge.2.mp q1)).2.2.2))))))))))))))
theorem v_312 {N : Nat} {sc : Nat × (Nat → Int)} {I : IH} {L : LH} {R : RH} {K : KH} {Q : AQ} {a0 : Int} (hL : Lay R K) (hp : Inv N I L R K ∧ a0 = I 77 0) (h : ∀ J, NearS I R J → Q none J L R K) : E sc 312 0 [some (aR (some 36)), some (aI a0), none] [] I L R K Q := by
  obtain ⟨hI, rfl⟩ := hp
  have hR := rules_ok (iR hI)
  have hD := iD hI
  obtain ⟨d1, d2, d3, d4, d5⟩ := hD
  refine w_312_0 hL ⟨hR, fun J1 hs h5 hG => ?_⟩
  have e14 : J1 14 8 = I 77 18 := by rw [hs 14 8 (by unfold S0; omega), d1]
  have e15 : ∀ j, J1 15 j = I 15 j := fun j => hs 15 j (by unfold S0; omega)
  have e16 : ∀ j, J1 16 j = I 16 j := fun j => hs 16 j (by unfold S0; omega)
  have key : (fun m : Nat => ∀ (x : Int) (f : Nat → Int) (o1 : Option AV), nL o1 → x = (m : Int) → (∀ c : Nat, c < m → f c = folI I (c : Int)) → E sc 312 11 [some (aR (some 36)), o1, some (aI x)] [] (tabF J1 40 f) L R K Q) 0 := by
    refine loop_up (C := fun m : Nat => ∀ (x : Int) (f : Nat → Int) (o1 : Option AV), nL o1 → x = (m : Int) → (∀ c : Nat, c < m → f c = folI I (c : Int)) → E sc 312 11 [some (aR (some 36)), o1, some (aI x)] [] (tabF J1 40 f) L R K Q) 5 ?_ ?_
    · intro m hm hc x f o1 n1 hx hf
      subst hx
      have f14 : (tabF J1 40 f) 14 8 = I 77 18 := e14
      have f16 : ∀ j, j < 8 → 0 ≤ (tabF J1 40 f) 16 j ∧ (tabF J1 40 f) 16 j ≤ 99 := fun j hj => by
        show 0 ≤ J1 16 j ∧ J1 16 j ≤ 99
        rw [e16]
        have := d4 j hj
        omega
      have es : sumTo (fun (j : Nat) => (if (tabF J1 40 f) 15 j = (m : Int) then (tabF J1 40 f) 16 j else 0 : Int)) ((tabF J1 40 f) 14 8).toNat = folI I (m : Int) := by
        rw [f14]
        refine sumTo_congr _ (fun j hj => ?_)
        show (if J1 15 j = (m : Int) then J1 16 j else 0 : Int) = _
        have := d4 j (by omega)
        rw [e15, e16, this.1, this.2.2.2.1]
      refine w_312_11 n1 hL ⟨fun q1 => by omega, fun q1 => ⟨⟨by rw [f14]; omega, f16⟩, by omega, by omega, ?_⟩⟩
      rw [es, tabF_set, Int.toNat_natCast]
      refine hc _ _ _ n1 (by omega) (fun c hcm => ?_)
      unfold updF
      by_cases q : c = m
      · rw [if_pos q, q]
      · rw [if_neg q]; exact hf c (by omega)
    · intro x f o1 n1 hx hf
      subst hx
      refine w_312_11 n1 hL ⟨fun q1 => h _ ⟨?_, ?_, hf⟩, fun q1 => by omega⟩
      · exact sg_t hs (fun x j q => by unfold tabF; rw [if_neg (fun e => q (by unfold S0; omega))])
      · exact gath_fr (L := L) (rulesOK_sg hR hs) hG (fun x j q => by unfold tabF; rw [if_neg (fun e => q (by unfold S0; omega))]) (fun x j h1 h2 => by unfold tabF; rw [if_neg (by omega)])
  have e : J1 = tabF J1 40 (fun j => J1 40 j) := tabF_id.symm
  rw [e]
  exact key _ _ _ nl_i rfl (fun c hc => by omega)
def AskOK (I J : IH) (s : Int) : Prop := (0 ≤ J 36 8 ∧ J 36 8 ≤ 5) ∧ (∀ j : Nat, (j : Int) < J 36 8 → 0 ≤ J 41 j ∧ 0 ≤ J 42 j ∧ J 42 j ≤ 792) ∧ ∀ e, sumTo (fun (j : Nat) => (if J 41 j = e then J 42 j else 0 : Int)) (J 36 8).toNat = conI I s e
def AskP (I J : IH) (s : Int) (m : Nat) : Prop := (0 ≤ J 36 8 ∧ J 36 8 ≤ m) ∧ (∀ j : Nat, (j : Int) < J 36 8 → 0 ≤ J 41 j ∧ 0 ≤ J 42 j ∧ J 42 j ≤ 792) ∧ ∀ e, 0 ≤ e → sumTo (fun (j : Nat) => (if J 41 j = e then J 42 j else 0 : Int)) (J 36 8).toNat = conP I s e m
theorem sumTo_0 {f : Nat → Int} : ∀ n, (∀ j, j < n → f j = 0) → sumTo f n = 0 := by
  intro n
  induction n with
  | zero => intro _; rfl
  | succ n ih => intro h; rw [sumTo_succ, ih (fun j hj => h j (by omega)), h n (by omega)]; rfl
theorem AskP.all {I J : IH} {s : Int} (h : AskP I J s 5) : AskOK I J s := by
  refine ⟨h.1, h.2.1, fun e => ?_⟩
  unfold conI
  by_cases q : 0 ≤ e
  · rw [if_pos q]; exact h.2.2 e q
  · rw [if_neg q]
    refine sumTo_0 _ (fun j hj => ?_)
    have := h.2.1 j (by omega)
    show (if J 41 j = e then J 42 j else 0 : Int) = 0
    rw [if_neg (by omega)]
theorem AskP.no {I J : IH} {s : Int} {m : Nat} (h : AskP I J s m) (hn : cusI I (m : Int) s < 0 ∨ folI I (m : Int) = 0) : AskP I J s (m + 1) := by
  refine ⟨by have := h.1; omega, h.2.1, fun e he => ?_⟩
  rw [h.2.2 e he]
  have e1 : conP I s e (m + 1) = conP I s e m + (if cusI I (m : Int) s = e then folI I (m : Int) else 0 : Int) := rfl
  rw [e1]
  split <;> omega
theorem AskP.yes {I J : IH} {s a p : Int} {m : Nat} (h : AskP I J s m) (ha : cusI I (m : Int) s = a) (ha0 : 0 ≤ a) (hp : folI I (m : Int) = p) (hp0 : 0 ≤ p ∧ p ≤ 792) : AskP I (setF (setF (setF J 41 (J 36 8).toNat a) 42 (J 36 8).toNat p) 36 8 (J 36 8 + 1)) s (m + 1) := by
  obtain ⟨h1, h2, h3⟩ := h
  have e36 : setF (setF (setF J 41 (J 36 8).toNat a) 42 (J 36 8).toNat p) 36 8 (J 36 8 + 1) 36 8 = J 36 8 + 1 := setF_s
  have e41 : ∀ j, setF (setF (setF J 41 (J 36 8).toNat a) 42 (J 36 8).toNat p) 36 8 (J 36 8 + 1) 41 j = if j = (J 36 8).toNat then a else J 41 j := fun j => by rw [setF_c (by omega), setF_c (by omega), setF_i]
  have e42 : ∀ j, setF (setF (setF J 41 (J 36 8).toNat a) 42 (J 36 8).toNat p) 36 8 (J 36 8 + 1) 42 j = if j = (J 36 8).toNat then p else J 42 j := fun j => by rw [setF_c (by omega), setF_i, setF_c (by omega)]
  unfold AskP
  rw [e36]
  refine ⟨by omega, fun j hj => ?_, fun e he => ?_⟩
  · rw [e41, e42]
    by_cases q : j = (J 36 8).toNat
    · rw [if_pos q, if_pos q]; omega
    · rw [if_neg q, if_neg q]; exact h2 j (by omega)
  · have e1 : conP I s e (m + 1) = conP I s e m + (if cusI I (m : Int) s = e then folI I (m : Int) else 0 : Int) := rfl
    rw [show (J 36 8 + 1).toNat = (J 36 8).toNat + 1 by omega, sumTo_succ, e1, ha, hp, ← h3 e he]
    have s1 : sumTo (fun (j : Nat) => (if setF (setF (setF J 41 (J 36 8).toNat a) 42 (J 36 8).toNat p) 36 8 (J 36 8 + 1) 41 j = e then setF (setF (setF J 41 (J 36 8).toNat a) 42 (J 36 8).toNat p) 36 8 (J 36 8 + 1) 42 j else 0 : Int)) (J 36 8).toNat = sumTo (fun (j : Nat) => (if J 41 j = e then J 42 j else 0 : Int)) (J 36 8).toNat := by
      refine sumTo_congr _ (fun j hj => ?_)
      rw [e41, e42, if_neg (show ¬ j = (J 36 8).toNat by omega), if_neg (show ¬ j = (J 36 8).toNat by omega)]
    rw [s1]
    show _ + (if setF (setF (setF J 41 (J 36 8).toNat a) 42 (J 36 8).toNat p) 36 8 (J 36 8 + 1) 41 (J 36 8).toNat = e then setF (setF (setF J 41 (J 36 8).toNat a) 42 (J 36 8).toNat p) 36 8 (J 36 8 + 1) 42 (J 36 8).toNat else 0 : Int) = _
    rw [e41, e42, if_pos (show (J 36 8).toNat = (J 36 8).toNat from rfl), if_pos (show (J 36 8).toNat = (J 36 8).toNat from rfl)]
theorem w_313_0 {sc : Nat × (Nat → Int)} {I : IH} {L : LH} {R : RH} {K : KH} {Q : AQ} {a0 : Int} (hL : Lay R K) (h : E sc 313 7 [some (aR (some 36)), some (aI a0), some (aI 0), none] [] (setF I 36 8 0) L R K Q) : E sc 313 0 [some (aR (some 36)), some (aI a0), none, none] [] I L R K Q :=
  e_aload_n mb_313 dX10_askCustoms_0 rfl (e_iconst mb_313 dX10_askCustoms_1 cv_iconst_0 (e_puti mb_313 dX10_askCustoms_2 mf_313.1 fs_41039 fk_10_8 (Or.inl ff_10_8) (lk_36 hL) (e_iconst mb_313 dX10_askCustoms_5 cv_iconst_0 (e_istore_n (l1 := [some (aR (some 36)), some (aI a0), some (aI 0), none]) mb_313 dX10_askCustoms_6 rfl h))))
theorem w_313_7 {sc : Nat × (Nat → Int)} {I : IH} {L : LH} {R : RH} {K : KH} {Q : AQ} {x1 x2 : Int} {o3 : Option AV} (no3 : nL o3) {ka kk : Int} (hL : Lay R K) (h : ((5 ≤ x2 → Q none I L R K) ∧ (x2 < 5 → (((0 : Int) ≤ x2 ∧ x2 < (5 : Int))) ∧ (((I 40 x2.toNat) ≤ 0 → ((-2147483648 : Int) ≤ x2 + 1 ∧ x2 + 1 < (2147483648 : Int)) ∧ E sc 313 7 [some (aR (some 36)), some (aI x1), some (aI (x2 + 1)), some (aI (-3))] [] I L R K Q) ∧ (0 < (I 40 x2.toNat) → ((RulesOK I R K) ∧ ((0 : Int) ≤ x2 ∧ x2 < (7 : Int)) ∧ (GathS I R ka kk)) ∧ ((0 ≤ (ansT I L R x2 x1 ka kk (-1)) ∧ (ansT I L R x2 x1 ka kk (-1)) < 65536)) ∧ ((((ansT I L R x2 x1 ka kk (-1)) % 256 - 3) < 0 → ((-2147483648 : Int) ≤ x2 + 1 ∧ x2 + 1 < (2147483648 : Int)) ∧ E sc 313 7 [some (aR (some 36)), some (aI x1), some (aI (x2 + 1)), some (aI ((ansT I L R x2 x1 ka kk (-1)) % 256 - 3))] [] I L R K Q) ∧ (0 ≤ ((ansT I L R x2 x1 ka kk (-1)) % 256 - 3) → (((0 : Int) ≤ I 36 8 ∧ I 36 8 < (5 : Int))) ∧ (((0 : Int) ≤ x2 ∧ x2 < (5 : Int))) ∧ (((0 : Int) ≤ I 36 8 ∧ I 36 8 < (5 : Int))) ∧ ((-2147483648 : Int) ≤ (I 36 8) + 1 ∧ (I 36 8) + 1 < (2147483648 : Int)) ∧ ((-2147483648 : Int) ≤ x2 + 1 ∧ x2 + 1 < (2147483648 : Int)) ∧ E sc 313 7 [some (aR (some 36)), some (aI x1), some (aI (x2 + 1)), some (aI ((ansT I L R x2 x1 ka kk (-1)) % 256 - 3))] [] (setF (setF (setF I 41 ((I 36 8).toNat) ((ansT I L R x2 x1 ka kk (-1)) % 256 - 3)) 42 ((I 36 8).toNat) (I 40 x2.toNat)) 36 8 ((I 36 8) + 1)) L R K Q))))))) : E sc 313 7 [some (aR (some 36)), some (aI x1), some (aI x2), o3] [] I L R K Q :=
  e_iload_n mb_313 dX10_askCustoms_7 rfl (e_iconst mb_313 dX10_askCustoms_8 cv_iconst_5 (e_icmp mb_313 dX10_askCustoms_9 rfl (fun q1 => e_return mb_313 dX10_askCustoms_84 rv_313 (h.1 (cb_ge.1.mp q1))) (fun q1 => e_aload_n mb_313 dX10_askCustoms_12 rfl (e_getr mb_313 dX10_askCustoms_13 mf_313.1 fs_40984 fk_10_5 (lk_36 hL) (lr_36_5 hL) (e_iload_n mb_313 dX10_askCustoms_16 rfl (e_ial mb_313 dX10_askCustoms_17 (lk_40 hL) (ll_40 hL) (h.2 (cb_ge.2.mp q1)).1 rfl (e_if mb_313 dX10_askCustoms_18 rfl (fun q2 => e_bipush mb_313 dX10_askCustoms_36 cv_bipush_m3 (e_istore_n (l1 := [some (aR (some 36)), some (aI x1), some (aI x2), some (aI (-3))]) mb_313 dX10_askCustoms_38 rfl (e_iload_n mb_313 dX10_askCustoms_39 rfl (e_if mb_313 dX10_askCustoms_40 rfl (fun _ => e_iinc (l1 := [some (aR (some 36)), some (aI x1), some (aI (x2 + 1)), some (aI (-3))]) mb_313 dX10_askCustoms_78 rfl ((h.2 (cb_ge.2.mp q1)).2.1 (cb_le.1.mp q2)).1 rfl (e_goto mb_313 dX10_askCustoms_81 rfl (((h.2 (cb_ge.2.mp q1)).2.1 (cb_le.1.mp q2)).2))) (fun q => absurd q (by decide)))))) (fun q2 => e_aload_n mb_313 dX10_askCustoms_21 rfl (e_getr mb_313 dX10_askCustoms_22 mf_313.1 fs_40999 fk_10_0 (lk_36 hL) (lr_36_0 hL) (e_iload_n mb_313 dX10_askCustoms_25 rfl (e_iload_n mb_313 dX10_askCustoms_26 rfl (e_callV mb_313 dX10_askCustoms_27 mf_313 mf_237 cs_41049 rfl rfl rfl rfl (lk_2 hL) rfl (show E _ _ _ [some (aR (some 2)), some (aI x2), some (aI x1)] [] _ _ _ _ _ from e_aload_n mb_237 dX5_top_0 rfl (e_iconst mb_237 dX5_top_1 cv_iconst_m1 (e_iload_n mb_237 dX5_top_2 rfl (e_iload_n mb_237 dX5_top_3 rfl (e_callV mb_237 dX5_top_4 mf_237 mf_236 cs_20540 rfl rfl rfl rfl (lk_2 hL) rfl (v_236s hL ((h.2 (cb_ge.2.mp q1)).2.2 (cb_le.2.mp q2)).1.1 ((h.2 (cb_ge.2.mp q1)).2.2 (cb_le.2.mp q2)).1.2.1 ((h.2 (cb_ge.2.mp q1)).2.2 (cb_le.2.mp q2)).1.2.2 (show E _ _ _ _ (_ :: _) _ _ _ _ _ from e_ireturn mb_237 dX5_top_7 ri_237 (show E _ _ _ _ [aI (ansT I L R x2 x1 ka kk (-1))] _ _ _ _ _ from e_callS mb_313 dX10_askCustoms_30 mf_313 mf_63 cs_41026 rfl rfl rfl rfl (v_63 hL ((h.2 (cb_ge.2.mp q1)).2.2 (cb_le.2.mp q2)).2.1 (show E _ _ _ _ (_ :: _) _ _ _ _ _ from e_goto mb_313 dX10_askCustoms_33 rfl (e_istore_n (l1 := [some (aR (some 36)), some (aI x1), some (aI x2), some (aI ((ansT I L R x2 x1 ka kk (-1)) % 256 - 3))]) mb_313 dX10_askCustoms_38 rfl (e_iload_n mb_313 dX10_askCustoms_39 rfl (e_if mb_313 dX10_askCustoms_40 rfl (fun q3 => e_iinc (l1 := [some (aR (some 36)), some (aI x1), some (aI (x2 + 1)), some (aI ((ansT I L R x2 x1 ka kk (-1)) % 256 - 3))]) mb_313 dX10_askCustoms_78 rfl (((h.2 (cb_ge.2.mp q1)).2.2 (cb_le.2.mp q2)).2.2.1 (cb_lt.1.mp q3)).1 rfl (e_goto mb_313 dX10_askCustoms_81 rfl ((((h.2 (cb_ge.2.mp q1)).2.2 (cb_le.2.mp q2)).2.2.1 (cb_lt.1.mp q3)).2))) (fun q3 => e_aload_n mb_313 dX10_askCustoms_43 rfl (e_getr mb_313 dX10_askCustoms_44 mf_313.1 fs_40987 fk_10_6 (lk_36 hL) (lr_36_6 hL) (e_aload_n mb_313 dX10_askCustoms_47 rfl (e_getv mb_313 dX10_askCustoms_48 mf_313.1 fs_41039 (Or.inl fk_10_8) (lk_36 hL) rfl (e_iload_n mb_313 dX10_askCustoms_51 rfl (e_iastore mb_313 dX10_askCustoms_52 (lk_41 hL) (ll_41 hL) (((h.2 (cb_ge.2.mp q1)).2.2 (cb_le.2.mp q2)).2.2.2 (cb_lt.2.mp q3)).1 (e_aload_n mb_313 dX10_askCustoms_53 rfl (e_getr mb_313 dX10_askCustoms_54 mf_313.1 fs_40990 fk_10_7 (lk_36 hL) (lr_36_7 hL) (e_aload_n mb_313 dX10_askCustoms_57 rfl (e_getv mb_313 dX10_askCustoms_58 mf_313.1 fs_41039 (Or.inl fk_10_8) (lk_36 hL) rfl (e_aload_n mb_313 dX10_askCustoms_61 rfl (e_getr mb_313 dX10_askCustoms_62 mf_313.1 fs_40984 fk_10_5 (lk_36 hL) (lr_36_5 hL) (e_iload_n mb_313 dX10_askCustoms_65 rfl (e_ial mb_313 dX10_askCustoms_66 (lk_40 hL) (ll_40 hL) (((h.2 (cb_ge.2.mp q1)).2.2 (cb_le.2.mp q2)).2.2.2 (cb_lt.2.mp q3)).2.1 rfl (e_iastore mb_313 dX10_askCustoms_67 (lk_42 hL) (ll_42 hL) (((h.2 (cb_ge.2.mp q1)).2.2 (cb_le.2.mp q2)).2.2.2 (cb_lt.2.mp q3)).2.2.1 (e_aload_n mb_313 dX10_askCustoms_68 rfl (e_dup mb_313 dX10_askCustoms_69 rfl (e_getv mb_313 dX10_askCustoms_70 mf_313.1 fs_41039 (Or.inl fk_10_8) (lk_36 hL) rfl (e_iconst mb_313 dX10_askCustoms_73 cv_iconst_1 (e_iadd mb_313 dX10_askCustoms_74 (((h.2 (cb_ge.2.mp q1)).2.2 (cb_le.2.mp q2)).2.2.2 (cb_lt.2.mp q3)).2.2.2.1 (e_puti mb_313 dX10_askCustoms_75 mf_313.1 fs_41039 fk_10_8 (Or.inl ff_10_8) (lk_36 hL) (e_iinc (l1 := [some (aR (some 36)), some (aI x1), some (aI (x2 + 1)), some (aI ((ansT I L R x2 x1 ka kk (-1)) % 256 - 3))]) mb_313 dX10_askCustoms_78 rfl (((h.2 (cb_ge.2.mp q1)).2.2 (cb_le.2.mp q2)).2.2.2 (cb_lt.2.mp q3)).2.2.2.2.1 rfl (e_goto mb_313 dX10_askCustoms_81 rfl ((((h.2 (cb_ge.2.mp q1)).2.2 (cb_le.2.mp q2)).2.2.2 (cb_lt.2.mp q3)).2.2.2.2.2)))))))))))))))))))))))))))))))))))))))))))))))))
theorem v_313 {N : Nat} {sc : Nat × (Nat → Int)} {I J : IH} {L : LH} {R : RH} {K : KH} {Q : AQ} {s : Int} (hL : Lay R K) (hp : Inv N I L R K ∧ NearS I R J ∧ 0 ≤ s ∧ s < 1536) (h : ∀ J2, NearS I R J2 → AskOK I J2 s → (∀ x j, x ≠ 41 → x ≠ 42 → ¬ (x = 36 ∧ j = 8) → J2 x j = J x j) → Q none J2 L R K) : E sc 313 0 [some (aR (some 36)), some (aI s), none, none] [] J L R K Q := by
  obtain ⟨hI, hN, hs⟩ := hp
  have key : (fun m : Nat => ∀ (x : Int) (J2 : IH) (o3 : Option AV), nL o3 → x = (m : Int) → NearS I R J2 → AskP I J2 s m → (∀ x j, x ≠ 41 → x ≠ 42 → ¬ (x = 36 ∧ j = 8) → J2 x j = J x j) → E sc 313 7 [some (aR (some 36)), some (aI s), some (aI x), o3] [] J2 L R K Q) 0 := by
    refine loop_up (C := fun m : Nat => ∀ (x : Int) (J2 : IH) (o3 : Option AV), nL o3 → x = (m : Int) → NearS I R J2 → AskP I J2 s m → (∀ x j, x ≠ 41 → x ≠ 42 → ¬ (x = 36 ∧ j = 8) → J2 x j = J x j) → E sc 313 7 [some (aR (some 36)), some (aI s), some (aI x), o3] [] J2 L R K Q) 5 ?_ ?_
    · intro m hm hc x J2 o3 n3 hx hN2 hA hf
      subst hx
      have hR := near_rules hI hN2
      have ec := near_cus hI hN2 (c := (m : Int)) (s := s) (by omega) hs
      have hrg : 0 ≤ ansT J2 L R (m : Int) s (I 77 0) (I 77 0) (-1) ∧ ansT J2 L R (m : Int) s (I 77 0) (I 77 0) (-1) < 65536 := ansT_rng hR
      have e40 := hN2.2.2 m hm
      have bf := fol_b hI (c := (m : Int))
      have h1 := hA.1
      refine w_313_7 n3 (ka := I 77 0) (kk := I 77 0) hL ?_
      simp only [Int.toNat_natCast]
      rw [e40, ec]
      refine ⟨fun q1 => by omega, fun q1 => ⟨by omega, fun q2 => ⟨by omega, hc _ _ _ nl_i (by omega) hN2 (hA.no (.inr (by omega))) hf⟩, fun q2 => ⟨⟨hR, by omega, hN2.2.1⟩, hrg, fun q3 => ⟨by omega, hc _ _ _ nl_i (by omega) hN2 (hA.no (.inl ?_)) hf⟩, fun q3 => ⟨by omega, by omega, by omega, by omega, by omega, hc _ _ _ nl_i (by omega) ?_ (hA.yes ?_ q3 rfl bf) ?_⟩⟩⟩⟩
      · unfold cusI
        rw [if_pos q2]
        exact q3
      · exact hN2.st hI (fun x j g1 g2 g3 g4 g5 => by rw [setF_n g5, setF_c g2, setF_c g1])
      · unfold cusI
        rw [if_pos q2]
      · intro x j g1 g2 g3
        rw [setF_n g3, setF_c g2, setF_c g1]
        exact hf x j g1 g2 g3
    · intro x J2 o3 n3 hx hN2 hA hf
      subst hx
      exact w_313_7 n3 (ka := I 77 0) (kk := I 77 0) hL ⟨fun q1 => h J2 hN2 hA.all hf, fun q1 => by omega⟩
  refine w_313_0 hL (key _ _ _ nl_n rfl (hN.st hI (fun x j g1 g2 g3 g4 g5 => setF_n g5)) ?_ (fun x j g1 g2 g3 => setF_n g3))
  have e36 : setF J 36 8 0 36 8 = 0 := setF_s
  unfold AskP
  rw [e36]
  exact ⟨by omega, fun j hj => by omega, fun e he => rfl⟩
theorem v_314x {sc : Nat × (Nat → Int)} {I : IH} {L : LH} {R : RH} {K : KH} {Q : AQ} {a0 : Int} (hL : Lay R K) (hp : (0 ≤ I 36 8 ∧ I 36 8 ≤ 5) ∧ ∀ j : Nat, (j : Int) < I 36 8 → 0 ≤ I 41 j ∧ 0 ≤ I 42 j ∧ I 42 j ≤ 792) (h : Q (some (aI (sumTo (fun (j : Nat) => (if I 41 j = a0 then I 42 j else 0 : Int)) (I 36 8).toNat))) I L R K) : E sc 314 0 [some (aR (some 36)), some (aI a0), none, none] [] I L R K Q := by
  obtain ⟨h1, h2⟩ := hp
  have bd : ∀ m : Nat, (m : Int) ≤ I 36 8 → 0 ≤ sumTo (fun (j : Nat) => (if I 41 j = a0 then I 42 j else 0 : Int)) m ∧ sumTo (fun (j : Nat) => (if I 41 j = a0 then I 42 j else 0 : Int)) m ≤ 792 * m := by
    intro m
    induction m with
    | zero => intro _; exact ⟨Int.le_refl _, Int.le_refl _⟩
    | succ m ih =>
      intro hm
      have g1 := ih (by omega)
      have g2 := h2 m (by omega)
      rw [sumTo_succ]
      show 0 ≤ _ + (if I 41 m = a0 then I 42 m else 0 : Int) ∧ _ + (if I 41 m = a0 then I 42 m else 0 : Int) ≤ _
      split <;> omega
  have key : (fun m : Nat => ∀ (x y : Int), x = sumTo (fun (j : Nat) => (if I 41 j = a0 then I 42 j else 0 : Int)) m → y = (m : Int) → E sc 314 4 [some (aR (some 36)), some (aI a0), some (aI x), some (aI y)] [] I L R K Q) 0 := by
    refine loop_up (C := fun m : Nat => ∀ (x y : Int), x = sumTo (fun (j : Nat) => (if I 41 j = a0 then I 42 j else 0 : Int)) m → y = (m : Int) → E sc 314 4 [some (aR (some 36)), some (aI a0), some (aI x), some (aI y)] [] I L R K Q) (I 36 8).toNat ?_ ?_
    · intro m hm hc x y hx hy
      subst hy
      have g1 := bd m (by omega)
      have g2 := h2 m (by omega)
      have es : sumTo (fun (j : Nat) => (if I 41 j = a0 then I 42 j else 0 : Int)) (m + 1) = sumTo (fun (j : Nat) => (if I 41 j = a0 then I 42 j else 0 : Int)) m + (if I 41 m = a0 then I 42 m else 0 : Int) := rfl
      refine w_314_4 hL ?_
      simp only [Int.toNat_natCast]
      exact ⟨fun q1 => by omega, fun q1 => ⟨by omega, fun q2 => ⟨by omega, hc _ _ (by rw [es, if_neg q2]; omega) (by omega)⟩, fun q2 => ⟨by omega, by omega, by omega, hc _ _ (by rw [es, if_pos q2]; omega) (by omega)⟩⟩⟩
    · intro x y hx hy
      subst hx
      exact w_314_4 hL ⟨fun q1 => h, fun q1 => by omega⟩
  exact w_314_0 hL (key _ _ rfl rfl)
theorem tb_dig : ∀ w : Nat, w < 1024 → ∀ k : Nat, k < 5 → iand (ishr (w : Int) (2 * (k : Int))) 3 = ((w / 4 ^ k % 4 : Nat) : Int) := by decide +kernel
theorem w_306_0 {sc : Nat × (Nat → Int)} {I : IH} {L : LH} {R : RH} {K : KH} {Q : AQ} {a0 a1 : Int} {ka kk : Int} (hL : Lay R K) (h : ((RulesOK I R K) ∧ ((0 : Int) ≤ 5 ∧ 5 < (7 : Int)) ∧ (GathS I R ka kk)) ∧ E sc 306 13 [some (aR (some 36)), some (aI a0), some (aI a1), some (aI (ansT I L R 5 a1 ka kk (-1))), some (aI 0), none] [] I L R K Q) : E sc 306 0 [some (aR (some 36)), some (aI a0), some (aI a1), none, none, none] [] I L R K Q :=
  e_aload_n mb_306 dX10_topOfWriting_0 rfl (e_getr mb_306 dX10_topOfWriting_1 mf_306.1 fs_40999 fk_10_0 (lk_36 hL) (lr_36_0 hL) (e_iconst mb_306 dX10_topOfWriting_4 cv_iconst_5 (e_iload_n mb_306 dX10_topOfWriting_5 rfl (e_callV mb_306 dX10_topOfWriting_6 mf_306 mf_237 cs_41049 rfl rfl rfl rfl (lk_2 hL) rfl (show E _ _ _ [some (aR (some 2)), some (aI 5), some (aI a1)] [] _ _ _ _ _ from e_aload_n mb_237 dX5_top_0 rfl (e_iconst mb_237 dX5_top_1 cv_iconst_m1 (e_iload_n mb_237 dX5_top_2 rfl (e_iload_n mb_237 dX5_top_3 rfl (e_callV mb_237 dX5_top_4 mf_237 mf_236 cs_20540 rfl rfl rfl rfl (lk_2 hL) rfl (v_236s hL h.1.1 h.1.2.1 h.1.2.2 (show E _ _ _ _ (_ :: _) _ _ _ _ _ from e_ireturn mb_237 dX5_top_7 ri_237 (show E _ _ _ _ [aI (ansT I L R 5 a1 ka kk (-1))] _ _ _ _ _ from e_istore_n (l1 := [some (aR (some 36)), some (aI a0), some (aI a1), some (aI (ansT I L R 5 a1 ka kk (-1))), none, none]) mb_306 dX10_topOfWriting_9 rfl (e_iconst mb_306 dX10_topOfWriting_10 cv_iconst_0 (e_istore (l1 := [some (aR (some 36)), some (aI a0), some (aI a1), some (aI (ansT I L R 5 a1 ka kk (-1))), some (aI 0), none]) mb_306 dX10_topOfWriting_11 rfl h.2))))))))))))))
theorem w_306_13 {sc : Nat × (Nat → Int)} {I : IH} {L : LH} {R : RH} {K : KH} {Q : AQ} {x1 x2 x3 x4 : Int} {o5 : Option AV} (no5 : nL o5) (hL : Lay R K) (h : ((5 ≤ x4 → Q (some (aI x3)) I L R K) ∧ (x4 < 5 → (((0 : Int) ≤ x4 ∧ x4 < (5 : Int))) ∧ (((I 39 x4.toNat) ≤ 0 → ((-2147483648 : Int) ≤ x4 + 1 ∧ x4 + 1 < (2147483648 : Int)) ∧ E sc 306 13 [some (aR (some 36)), some (aI x1), some (aI x2), some (aI x3), some (aI (x4 + 1)), o5] [] I L R K Q) ∧ (0 < (I 39 x4.toNat) → ((-2147483648 : Int) ≤ x4 * 3 ∧ x4 * 3 < (2147483648 : Int)) ∧ ((-2147483648 : Int) ≤ 2 * x4 ∧ 2 * x4 < (2147483648 : Int)) ∧ ((-2147483648 : Int) ≤ (x4 * 3) + (iand (ishr x1 (2 * x4)) 3) ∧ (x4 * 3) + (iand (ishr x1 (2 * x4)) 3) < (2147483648 : Int)) ∧ (((0 : Int) ≤ ((x4 * 3) + (iand (ishr x1 (2 * x4)) 3)) ∧ ((x4 * 3) + (iand (ishr x1 (2 * x4)) 3)) < (15 : Int)) ∧ (R 37 (((x4 * 3) + (iand (ishr x1 (2 * x4)) 3)).toNat) = some (rf R 37 (((x4 * 3) + (iand (ishr x1 (2 * x4)) 3)).toNat)))) ∧ (((0 : Int) ≤ ((x4 * 3) + (iand (ishr x1 (2 * x4)) 3)) ∧ ((x4 * 3) + (iand (ishr x1 (2 * x4)) 3)) < (15 : Int))) ∧ (K.1 (rf R 37 (((x4 * 3) + (iand (ishr x1 (2 * x4)) 3)).toNat)) = 9 ∧ (K.1 (rf R 37 (((x4 * 3) + (iand (ishr x1 (2 * x4)) 3)).toNat)) = 9 ∧ R (rf R 37 (((x4 * 3) + (iand (ishr x1 (2 * x4)) 3)).toNat)) 4 = some (rf R (rf R 37 (((x4 * 3) + (iand (ishr x1 (2 * x4)) 3)).toNat)) 4)) ∧ (SetAt R K (rf R (rf R 37 (((x4 * 3) + (iand (ishr x1 (2 * x4)) 3)).toNat)) 4)) ∧ (0 ≤ x3 ∧ x3 < 65536) ∧ (0 ≤ (I 38 (((x4 * 3) + (iand (ishr x1 (2 * x4)) 3)).toNat)) ∧ (I 38 (((x4 * 3) + (iand (ishr x1 (2 * x4)) 3)).toNat)) ≤ 9) ∧ (0 ≤ I (rf R 37 (((x4 * 3) + (iand (ishr x1 (2 * x4)) 3)).toNat)) 8 ∧ I (rf R 37 (((x4 * 3) + (iand (ishr x1 (2 * x4)) 3)).toNat)) 8 ≤ 203)) ∧ ((-2147483648 : Int) ≤ x4 + 1 ∧ x4 + 1 < (2147483648 : Int)) ∧ E sc 306 13 [some (aR (some 36)), some (aI x1), some (aI x2), some (aI (addT I L R (rf R 37 (((x4 * 3) + (iand (ishr x1 (2 * x4)) 3)).toNat)) x3 (I 38 (((x4 * 3) + (iand (ishr x1 (2 * x4)) 3)).toNat)) x2)), some (aI (x4 + 1)), some (aI ((x4 * 3) + (iand (ishr x1 (2 * x4)) 3)))] [] I L R K Q))))) : E sc 306 13 [some (aR (some 36)), some (aI x1), some (aI x2), some (aI x3), some (aI x4), o5] [] I L R K Q :=
  e_iload mb_306 dX10_topOfWriting_13 rfl (e_iconst mb_306 dX10_topOfWriting_15 cv_iconst_5 (e_icmp mb_306 dX10_topOfWriting_16 rfl (fun q1 => e_iload_n mb_306 dX10_topOfWriting_68 rfl (e_ireturn mb_306 dX10_topOfWriting_69 ri_306 (h.1 (cb_ge.1.mp q1)))) (fun q1 => e_aload_n mb_306 dX10_topOfWriting_19 rfl (e_getr mb_306 dX10_topOfWriting_20 mf_306.1 fs_40981 fk_10_4 (lk_36 hL) (lr_36_4 hL) (e_iload mb_306 dX10_topOfWriting_23 rfl (e_ial mb_306 dX10_topOfWriting_25 (lk_39 hL) (ll_39 hL) (h.2 (cb_ge.2.mp q1)).1 rfl (e_if mb_306 dX10_topOfWriting_26 rfl (fun q2 => e_iinc (l1 := [some (aR (some 36)), some (aI x1), some (aI x2), some (aI x3), some (aI (x4 + 1)), o5]) mb_306 dX10_topOfWriting_62 rfl ((h.2 (cb_ge.2.mp q1)).2.1 (cb_le.1.mp q2)).1 rfl (e_goto mb_306 dX10_topOfWriting_65 rfl (((h.2 (cb_ge.2.mp q1)).2.1 (cb_le.1.mp q2)).2))) (fun q2 => e_iload mb_306 dX10_topOfWriting_29 rfl (e_iconst mb_306 dX10_topOfWriting_31 cv_iconst_3 (e_imul mb_306 dX10_topOfWriting_32 ((h.2 (cb_ge.2.mp q1)).2.2 (cb_le.2.mp q2)).1 (e_iload_n mb_306 dX10_topOfWriting_33 rfl (e_iload mb_306 dX10_topOfWriting_34 rfl (e_callS mb_306 dX10_topOfWriting_36 mf_306 mf_311 cs_41007 rfl rfl rfl rfl (show E _ _ _ [some (aI x1), some (aI x4)] [] _ _ _ _ _ from e_iload_n mb_311 dX10_digitOf_0 rfl (e_iconst mb_311 dX10_digitOf_1 cv_iconst_2 (e_iload_n mb_311 dX10_digitOf_2 rfl (e_imul mb_311 dX10_digitOf_3 ((h.2 (cb_ge.2.mp q1)).2.2 (cb_le.2.mp q2)).2.1 (e_ishr mb_311 dX10_digitOf_4 (e_iconst mb_311 dX10_digitOf_5 cv_iconst_3 (e_iand mb_311 dX10_digitOf_6 (e_ireturn mb_311 dX10_digitOf_7 ri_311 (show E _ _ _ _ [aI (iand (ishr x1 (2 * x4)) 3), aI (x4 * 3)] _ _ _ _ _ from e_iadd mb_306 dX10_topOfWriting_39 ((h.2 (cb_ge.2.mp q1)).2.2 (cb_le.2.mp q2)).2.2.1 (e_istore (l1 := [some (aR (some 36)), some (aI x1), some (aI x2), some (aI x3), some (aI x4), some (aI ((x4 * 3) + (iand (ishr x1 (2 * x4)) 3)))]) mb_306 dX10_topOfWriting_40 rfl (e_aload_n mb_306 dX10_topOfWriting_42 rfl (e_getr mb_306 dX10_topOfWriting_43 mf_306.1 fs_40973 fk_10_2 (lk_36 hL) (lr_36_2 hL) (e_iload mb_306 dX10_topOfWriting_46 rfl (e_aaload mb_306 dX10_topOfWriting_48 (by rw [lk_37 hL]; decide) (ll_37 hL) ((h.2 (cb_ge.2.mp q1)).2.2 (cb_le.2.mp q2)).2.2.2.1.1 ((h.2 (cb_ge.2.mp q1)).2.2 (cb_le.2.mp q2)).2.2.2.1.2 (e_iload_n mb_306 dX10_topOfWriting_49 rfl (e_aload_n mb_306 dX10_topOfWriting_50 rfl (e_getr mb_306 dX10_topOfWriting_51 mf_306.1 fs_40977 fk_10_3 (lk_36 hL) (lr_36_3 hL) (e_iload mb_306 dX10_topOfWriting_54 rfl (e_ial mb_306 dX10_topOfWriting_56 (lk_38 hL) (ll_38 hL) ((h.2 (cb_ge.2.mp q1)).2.2 (cb_le.2.mp q2)).2.2.2.2.1 rfl (e_iload_n mb_306 dX10_topOfWriting_57 rfl (e_callV mb_306 dX10_topOfWriting_58 mf_306 mf_281 cs_41054 rfl rfl rfl rfl ((h.2 (cb_ge.2.mp q1)).2.2 (cb_le.2.mp q2)).2.2.2.2.2.1.1 rfl (v_281 hL ((h.2 (cb_ge.2.mp q1)).2.2 (cb_le.2.mp q2)).2.2.2.2.2.1.2.1 ((h.2 (cb_ge.2.mp q1)).2.2 (cb_le.2.mp q2)).2.2.2.2.2.1.2.2.1 ((h.2 (cb_ge.2.mp q1)).2.2 (cb_le.2.mp q2)).2.2.2.2.2.1.2.2.2.1 ((h.2 (cb_ge.2.mp q1)).2.2 (cb_le.2.mp q2)).2.2.2.2.2.1.2.2.2.2.1 ((h.2 (cb_ge.2.mp q1)).2.2 (cb_le.2.mp q2)).2.2.2.2.2.1.2.2.2.2.2 (show E _ _ _ _ (_ :: _) _ _ _ _ _ from e_istore_n (l1 := [some (aR (some 36)), some (aI x1), some (aI x2), some (aI (addT I L R (rf R 37 (((x4 * 3) + (iand (ishr x1 (2 * x4)) 3)).toNat)) x3 (I 38 (((x4 * 3) + (iand (ishr x1 (2 * x4)) 3)).toNat)) x2)), some (aI x4), some (aI ((x4 * 3) + (iand (ishr x1 (2 * x4)) 3)))]) mb_306 dX10_topOfWriting_61 rfl (e_iinc (l1 := [some (aR (some 36)), some (aI x1), some (aI x2), some (aI (addT I L R (rf R 37 (((x4 * 3) + (iand (ishr x1 (2 * x4)) 3)).toNat)) x3 (I 38 (((x4 * 3) + (iand (ishr x1 (2 * x4)) 3)).toNat)) x2)), some (aI (x4 + 1)), some (aI ((x4 * 3) + (iand (ishr x1 (2 * x4)) 3)))]) mb_306 dX10_topOfWriting_62 rfl ((h.2 (cb_ge.2.mp q1)).2.2 (cb_le.2.mp q2)).2.2.2.2.2.2.1 rfl (e_goto mb_306 dX10_topOfWriting_65 rfl (((h.2 (cb_ge.2.mp q1)).2.2 (cb_le.2.mp q2)).2.2.2.2.2.2.2)))))))))))))))))))))))))))))))))))))))
theorem v_306 {N : Nat} {sc : Nat × (Nat → Int)} {I J : IH} {L : LH} {R : RH} {K : KH} {Q : AQ} {w s : Int} (hL : Lay R K) (hp : Inv N I L R K ∧ NearS I R J ∧ (0 ≤ s ∧ s < 1536) ∧ (0 ≤ w ∧ w < 1024) ∧ DigOK I (dgW w)) (h : Q (some (aI (tpI I (dgW w) s 5))) J L R K) : E sc 306 0 [some (aR (some 36)), some (aI w), some (aI s), none, none, none] [] J L R K Q := by
  obtain ⟨hI, hN, hs, hw, hd⟩ := hp
  obtain ⟨v, rfl⟩ : ∃ v : Nat, w = (v : Int) := ⟨w.toNat, by omega⟩
  have hW := iW hI
  have jr : ∀ x j, ¬ S0 x j → J x j = I x j := hN.1
  have key : (fun k : Nat => ∀ (x y : Int) (o5 : Option AV), nL o5 → x = tpI I (dgW (v : Int)) s k → y = (k : Int) → E sc 306 13 [some (aR (some 36)), some (aI (v : Int)), some (aI s), some (aI x), some (aI y), o5] [] J L R K Q) 0 := by
    refine loop_up (C := fun k : Nat => ∀ (x y : Int) (o5 : Option AV), nL o5 → x = tpI I (dgW (v : Int)) s k → y = (k : Int) → E sc 306 13 [some (aR (some 36)), some (aI (v : Int)), some (aI s), some (aI x), some (aI y), o5] [] J L R K Q) 5 ?_ ?_
    · intro k hk hc x y o5 n5 hx hy
      subst hy
      have e39 : J 39 k = I 111 k := by rw [jr 39 k (by unfold S0; omega)]; exact (hW.1 k hk).1
      have b39 := (hW.1 k hk).2
      have rg := tp_rng hI hd (s := s) k (by omega)
      have eb := tb_dig v (by omega) k hk
      have edg : dgW (v : Int) k = v / 4 ^ k % 4 := by unfold dgW; rw [Int.toNat_natCast]
      have es : tpI I (dgW (v : Int)) s (k + 1) = if 0 < I 111 k ∧ fitsM I (80 + 3 * k + dgW (v : Int) k) s = true then jn (tpI I (dgW (v : Int)) s k) (I 112 (3 * k + dgW (v : Int) k)) (I 79 (80 + 3 * k + dgW (v : Int) k)) else tpI I (dgW (v : Int)) s k := rfl
      refine w_306_13 n5 hL ?_
      simp only [Int.toNat_natCast]
      rw [e39]
      refine ⟨fun q1 => by omega, fun q1 => ⟨by omega, fun q2 => ⟨by omega, hc _ _ _ n5 (by rw [es, if_neg (fun g => by omega)]; exact hx) (by omega)⟩, fun q2 => ?_⟩⟩
      obtain ⟨w1, w2, w3, w4⟩ := way_at hI hd hk q2
      have ei : ((k : Int) * 3 + iand (ishr (v : Int) (2 * (k : Int))) 3).toNat = 3 * k + dgW (v : Int) k := by rw [eb, edg]; omega
      have ei2 : (k : Int) * 3 + iand (ishr (v : Int) (2 * (k : Int))) 3 = ((3 * k + dgW (v : Int) k : Nat) : Int) := by rw [eb, edg]; omega
      rw [ei, ei2]
      have w2' := w2
      obtain ⟨⟨t1, t2, t3, t4, t5, t6, t7⟩, t8, t9⟩ := w2'
      have r4 : rf R (rf R 37 (3 * k + dgW (v : Int) k)) 4 = rf R 37 (3 * k + dgW (v : Int) k) + 4 := rf_eq t3
      have r5 : rf R (rf R 37 (3 * k + dgW (v : Int) k) + 4) 0 = rf R 37 (3 * k + dgW (v : Int) k) + 5 := rf_eq t5
      have j8 : J (rf R 37 (3 * k + dgW (v : Int) k)) 8 = I 79 (80 + 3 * k + dgW (v : Int) k) := by rw [jr _ 8 (by unfold S0; omega)]; exact t8.1
      have j38 : J 38 (3 * k + dgW (v : Int) k) = I 112 (3 * k + dgW (v : Int) k) := by rw [jr 38 _ (by unfold S0; omega)]; exact w3.1
      have hset : SetAt R K (rf R (rf R 37 (3 * k + dgW (v : Int) k)) 4) := by
        rw [r4]
        exact ⟨t4, by rw [r5]; exact t5, by rw [r5]; exact t6, by rw [r5]; exact t7⟩
      have ea : addT J L R (rf R 37 (3 * k + dgW (v : Int) k)) x (J 38 (3 * k + dgW (v : Int) k)) s = tpI I (dgW (v : Int)) s (k + 1) := by
        unfold addT
        rw [es, r4, r5, j8, j38, hx]
        have hf := t9 s.toNat (by omega)
        rw [show ((s.toNat : Nat) : Int) = s by omega] at hf
        by_cases q : fitsM I (80 + 3 * k + dgW (v : Int) k) s = true
        · rw [if_pos ⟨hs.1, hs.2, hf.2 q⟩, if_pos ⟨q2, q⟩]
        · rw [if_neg (fun g => q (hf.1 g.2.2)), if_neg (fun g => q g.2)]
      rw [ea]
      refine ⟨by omega, by omega, by omega, ⟨by omega, w1⟩, by omega, ⟨t2, ⟨t2, by rw [r4]; exact t3⟩, hset, by omega, by rw [j38]; exact w3.2, by rw [j8]; omega⟩, by omega, hc _ _ _ nl_i rfl (by omega)⟩
    · intro x y o5 n5 hx hy
      subst hx
      exact w_306_13 n5 hL ⟨fun q1 => h, fun q1 => by omega⟩
  refine w_306_0 (ka := I 77 0) (kk := I 77 0) hL ⟨⟨near_rules hI hN, by omega, hN.2.1⟩, ?_⟩
  exact key _ _ _ nl_n (near_top hI hN hs) rfl
theorem w_302_0 {sc : Nat × (Nat → Int)} {I : IH} {L : LH} {R : RH} {K : KH} {Q : AQ} {a0 a1 : Int} {nb : Nat} (hL : Lay R K) (h : ((Inv nb I L R K ∧ a1 = I 77 0)) ∧ (∀ (J1 : IH), (NearS I R J1) → E sc 302 10 [some (aR (some 36)), some (aI a0), some (aI a1), some (aI 0), some (aI 0)] [] J1 L R K Q)) : E sc 302 0 [some (aR (some 36)), some (aI a0), some (aI a1), none, none] [] I L R K Q :=
  e_aload_n mb_302 dX10_keptBy_0 rfl (e_iload_n mb_302 dX10_keptBy_1 rfl (e_callV mb_302 dX10_keptBy_2 mf_302 mf_312 cs_41016 rfl rfl rfl rfl (lk_36 hL) rfl (v_312 hL h.1 (fun J1 hp2 => (show E _ _ _ _ [] _ _ _ _ _ from e_iconst mb_302 dX10_keptBy_5 cv_iconst_0 (e_istore_n (l1 := [some (aR (some 36)), some (aI a0), some (aI a1), some (aI 0), none]) mb_302 dX10_keptBy_6 rfl (e_iconst mb_302 dX10_keptBy_7 cv_iconst_0 (e_istore (l1 := [some (aR (some 36)), some (aI a0), some (aI a1), some (aI 0), some (aI 0)]) mb_302 dX10_keptBy_8 rfl ((h.2 J1 hp2))))))))))
theorem w_302_10 {sc : Nat × (Nat → Int)} {I : IH} {L : LH} {R : RH} {K : KH} {Q : AQ} {x1 x3 x4 : Int} {o2 : Option AV} (no2 : nL o2) {ib : IH} {nb : Nat} (hL : Lay R K) (h : ((1536 ≤ x4 → Q (some (aI x3)) I L R K) ∧ (x4 < 1536 → ((Inv nb ib L R K ∧ NearS ib R I ∧ 0 ≤ x4 ∧ x4 < 1536)) ∧ (∀ (J3 : IH), (NearS ib R J3) → (AskOK ib J3 x4) → (∀ x j, x ≠ 41 → x ≠ 42 → ¬ (x = 36 ∧ j = 8) → J3 x j = I x j) → ((Inv nb ib L R K ∧ NearS ib R J3 ∧ (0 ≤ x4 ∧ x4 < 1536) ∧ (0 ≤ x1 ∧ x1 < 1024) ∧ DigOK ib (dgW x1))) ∧ ((0 ≤ (tpI ib (dgW x1) x4 5) ∧ (tpI ib (dgW x1) x4 5) < 65536)) ∧ (((0 ≤ J3 36 8 ∧ J3 36 8 ≤ 5) ∧ ∀ j : Nat, (j : Int) < J3 36 8 → 0 ≤ J3 41 j ∧ 0 ≤ J3 42 j ∧ J3 42 j ≤ 792)) ∧ ((-2147483648 : Int) ≤ x3 + (sumTo (fun (j : Nat) => (if J3 41 j = ((tpI ib (dgW x1) x4 5) % 256 - 3) then J3 42 j else 0 : Int)) (J3 36 8).toNat) ∧ x3 + (sumTo (fun (j : Nat) => (if J3 41 j = ((tpI ib (dgW x1) x4 5) % 256 - 3) then J3 42 j else 0 : Int)) (J3 36 8).toNat) < (2147483648 : Int)) ∧ ((-2147483648 : Int) ≤ x4 + 1 ∧ x4 + 1 < (2147483648 : Int)) ∧ E sc 302 10 [some (aR (some 36)), some (aI x1), o2, some (aI (x3 + (sumTo (fun (j : Nat) => (if J3 41 j = ((tpI ib (dgW x1) x4 5) % 256 - 3) then J3 42 j else 0 : Int)) (J3 36 8).toNat))), some (aI (x4 + 1))] [] J3 L R K Q)))) : E sc 302 10 [some (aR (some 36)), some (aI x1), o2, some (aI x3), some (aI x4)] [] I L R K Q :=
  e_iload mb_302 dX10_keptBy_10 rfl (e_sipush mb_302 dX10_keptBy_12 cv_sipush_1536 (e_icmp mb_302 dX10_keptBy_15 rfl (fun q1 => e_iload_n mb_302 dX10_keptBy_47 rfl (e_ireturn mb_302 dX10_keptBy_48 ri_302 (h.1 (cb_ge.1.mp q1)))) (fun q1 => e_aload_n mb_302 dX10_keptBy_18 rfl (e_iload mb_302 dX10_keptBy_19 rfl (e_callV mb_302 dX10_keptBy_21 mf_302 mf_313 cs_41020 rfl rfl rfl rfl (lk_36 hL) rfl (v_313 hL (h.2 (cb_ge.2.mp q1)).1 (fun J3 hp4 hp5 hp6 => (show E _ _ _ _ [] _ _ _ _ _ from e_iload_n mb_302 dX10_keptBy_24 rfl (e_aload_n mb_302 dX10_keptBy_25 rfl (e_aload_n mb_302 dX10_keptBy_26 rfl (e_iload_n mb_302 dX10_keptBy_27 rfl (e_iload mb_302 dX10_keptBy_28 rfl (e_callV mb_302 dX10_keptBy_30 mf_302 mf_306 cs_41023 rfl rfl rfl rfl (lk_36 hL) rfl (v_306 hL ((h.2 (cb_ge.2.mp q1)).2 J3 hp4 hp5 hp6).1 (show E _ _ _ _ (_ :: _) _ _ _ _ _ from e_callS mb_302 dX10_keptBy_33 mf_302 mf_63 cs_41026 rfl rfl rfl rfl (v_63 hL ((h.2 (cb_ge.2.mp q1)).2 J3 hp4 hp5 hp6).2.1 (show E _ _ _ _ (_ :: _) _ _ _ _ _ from e_callV mb_302 dX10_keptBy_36 mf_302 mf_314 cs_41030 rfl rfl rfl rfl (lk_36 hL) rfl (v_314x hL ((h.2 (cb_ge.2.mp q1)).2 J3 hp4 hp5 hp6).2.2.1 (show E _ _ _ _ (_ :: _) _ _ _ _ _ from e_iadd mb_302 dX10_keptBy_39 ((h.2 (cb_ge.2.mp q1)).2 J3 hp4 hp5 hp6).2.2.2.1 (e_istore_n (l1 := [some (aR (some 36)), some (aI x1), o2, some (aI (x3 + (sumTo (fun (j : Nat) => (if J3 41 j = ((tpI ib (dgW x1) x4 5) % 256 - 3) then J3 42 j else 0 : Int)) (J3 36 8).toNat))), some (aI x4)]) mb_302 dX10_keptBy_40 (aset_nl no2 rfl rfl rfl) (e_iinc (l1 := [some (aR (some 36)), some (aI x1), o2, some (aI (x3 + (sumTo (fun (j : Nat) => (if J3 41 j = ((tpI ib (dgW x1) x4 5) % 256 - 3) then J3 42 j else 0 : Int)) (J3 36 8).toNat))), some (aI (x4 + 1))]) mb_302 dX10_keptBy_41 rfl ((h.2 (cb_ge.2.mp q1)).2 J3 hp4 hp5 hp6).2.2.2.2.1 rfl (e_goto mb_302 dX10_keptBy_44 rfl (((h.2 (cb_ge.2.mp q1)).2 J3 hp4 hp5 hp6).2.2.2.2.2)))))))))))))))))))))))
theorem v_302 {N : Nat} {sc : Nat × (Nat → Int)} {I : IH} {L : LH} {R : RH} {K : KH} {Q : AQ} {w : Int} (hL : Lay R K) (hp : Inv N I L R K ∧ (0 ≤ w ∧ w < 1024) ∧ DigOK I (dgW w)) (h : ∀ J, NearS I R J → Q (some (aI (KepI I (dgW w) 1536))) J L R K) : E sc 302 0 [some (aR (some 36)), some (aI w), some (aI (I 77 0)), none, none] [] I L R K Q := by
  obtain ⟨hI, hw, hd⟩ := hp
  refine w_302_0 (nb := N) hL ⟨⟨hI, rfl⟩, fun J1 hN1 => ?_⟩
  have key : (fun m : Nat => ∀ (x y : Int) (J : IH) (o2 : Option AV), nL o2 → x = KepI I (dgW w) m → y = (m : Int) → NearS I R J → E sc 302 10 [some (aR (some 36)), some (aI w), o2, some (aI x), some (aI y)] [] J L R K Q) 0 := by
    refine loop_up (C := fun m : Nat => ∀ (x y : Int) (J : IH) (o2 : Option AV), nL o2 → x = KepI I (dgW w) m → y = (m : Int) → NearS I R J → E sc 302 10 [some (aR (some 36)), some (aI w), o2, some (aI x), some (aI y)] [] J L R K Q) 1536 ?_ ?_
    · intro m hm hc x y J o2 n2 hx hy hN
      subst hy
      have bk := Kep_b hI (t := dgW w) m
      have bs := kep_b hI (t := dgW w) (s := (m : Int))
      have rg := tp_rng hI hd (s := (m : Int)) 5 (by omega)
      refine w_302_10 (ib := I) (nb := N) n2 hL ⟨fun q1 => by omega, fun q1 => ⟨⟨hI, hN, by omega⟩, fun J3 h1 h2 h3 => ⟨⟨hI, h1, by omega, hw, hd⟩, rg, ⟨h2.1, h2.2.1⟩, ?_⟩⟩⟩
      rw [h2.2.2]
      have e : conI I (m : Int) (tpI I (dgW w) (m : Int) 5 % 256 - 3) = kepI I (dgW w) (m : Int) := rfl
      rw [e]
      exact ⟨by omega, by omega, hc _ _ _ _ n2 (by rw [hx]; rfl) (by omega) h1⟩
    · intro x y J o2 n2 hx hy hN
      exact w_302_10 (ib := I) (nb := N) n2 hL ⟨fun q1 => by rw [hx]; exact h J hN, fun q1 => by omega⟩
  exact key _ _ _ _ nl_i rfl rfl hN1
theorem w_301_0 {sc : Nat × (Nat → Int)} {I : IH} {L : LH} {R : RH} {K : KH} {Q : AQ} {a0 : Int} (hL : Lay R K) (h : ((a0 < 0 → Q (some (aI 0)) I L R K) ∧ (0 ≤ a0 → (((ishr a0 10) = 0 → E sc 301 15 [some (aR (some 36)), some (aI a0), some (aI 0)] [] I L R K Q) ∧ ((ishr a0 10) ≠ 0 → Q (some (aI 0)) I L R K))))) : E sc 301 0 [some (aR (some 36)), some (aI a0), none] [] I L R K Q :=
  e_iload_n mb_301 dX10_isWriting_0 rfl (e_if mb_301 dX10_isWriting_1 rfl (fun q1 => e_iconst mb_301 dX10_isWriting_11 cv_iconst_0 (e_ireturn mb_301 dX10_isWriting_12 (ri_301 (Or.inl rfl)) (h.1 (cb_lt.1.mp q1)))) (fun q1 => e_iload_n mb_301 dX10_isWriting_4 rfl (e_bipush mb_301 dX10_isWriting_5 cv_bipush_10 (e_ishr mb_301 dX10_isWriting_7 (e_if mb_301 dX10_isWriting_8 rfl (fun q2 => e_iconst mb_301 dX10_isWriting_13 cv_iconst_0 (e_istore_n (l1 := [some (aR (some 36)), some (aI a0), some (aI 0)]) mb_301 dX10_isWriting_14 rfl (((h.2 (cb_lt.2.mp q1)).1 (cb_eq.1.mp q2))))) (fun q2 => e_iconst mb_301 dX10_isWriting_11 cv_iconst_0 (e_ireturn mb_301 dX10_isWriting_12 (ri_301 (Or.inl rfl)) ((h.2 (cb_lt.2.mp q1)).2 (cb_eq.2.mp q2)))))))))
theorem w_301_15 {sc : Nat × (Nat → Int)} {I : IH} {L : LH} {R : RH} {K : KH} {Q : AQ} {x1 x2 : Int} (hL : Lay R K) (h : ((5 ≤ x2 → Q (some (aI 1)) I L R K) ∧ (x2 < 5 → ((-2147483648 : Int) ≤ 2 * x2 ∧ 2 * x2 < (2147483648 : Int)) ∧ (((0 : Int) ≤ x2 ∧ x2 < (5 : Int))) ∧ (((iand (ishr x1 (2 * x2)) 3) < (max (I 39 x2.toNat) 1) → ((-2147483648 : Int) ≤ x2 + 1 ∧ x2 + 1 < (2147483648 : Int)) ∧ E sc 301 15 [some (aR (some 36)), some (aI x1), some (aI (x2 + 1))] [] I L R K Q) ∧ ((max (I 39 x2.toNat) 1) ≤ (iand (ishr x1 (2 * x2)) 3) → Q (some (aI 0)) I L R K))))) : E sc 301 15 [some (aR (some 36)), some (aI x1), some (aI x2)] [] I L R K Q :=
  e_iload_n mb_301 dX10_isWriting_15 rfl (e_iconst mb_301 dX10_isWriting_16 cv_iconst_5 (e_icmp mb_301 dX10_isWriting_17 rfl (fun q1 => e_iconst mb_301 dX10_isWriting_46 cv_iconst_1 (e_ireturn mb_301 dX10_isWriting_47 (ri_301 (Or.inr rfl)) (h.1 (cb_ge.1.mp q1)))) (fun q1 => e_iload_n mb_301 dX10_isWriting_20 rfl (e_iload_n mb_301 dX10_isWriting_21 rfl (e_callS mb_301 dX10_isWriting_22 mf_301 mf_311 cs_41007 rfl rfl rfl rfl (show E _ _ _ [some (aI x1), some (aI x2)] [] _ _ _ _ _ from e_iload_n mb_311 dX10_digitOf_0 rfl (e_iconst mb_311 dX10_digitOf_1 cv_iconst_2 (e_iload_n mb_311 dX10_digitOf_2 rfl (e_imul mb_311 dX10_digitOf_3 (h.2 (cb_ge.2.mp q1)).1 (e_ishr mb_311 dX10_digitOf_4 (e_iconst mb_311 dX10_digitOf_5 cv_iconst_3 (e_iand mb_311 dX10_digitOf_6 (e_ireturn mb_311 dX10_digitOf_7 ri_311 (show E _ _ _ _ [aI (iand (ishr x1 (2 * x2)) 3)] _ _ _ _ _ from e_aload_n mb_301 dX10_isWriting_25 rfl (e_getr mb_301 dX10_isWriting_26 mf_301.1 fs_40981 fk_10_4 (lk_36 hL) (lr_36_4 hL) (e_iload_n mb_301 dX10_isWriting_29 rfl (e_ial mb_301 dX10_isWriting_30 (lk_39 hL) (ll_39 hL) (h.2 (cb_ge.2.mp q1)).2.1 rfl (e_iconst mb_301 dX10_isWriting_31 cv_iconst_1 (e_max mb_301 dX10_isWriting_32 mf_301 cs_41011 rfl rfl (e_icmp mb_301 dX10_isWriting_35 rfl (fun q2 => e_iinc (l1 := [some (aR (some 36)), some (aI x1), some (aI (x2 + 1))]) mb_301 dX10_isWriting_40 rfl ((h.2 (cb_ge.2.mp q1)).2.2.1 (cb_lt.1.mp q2)).1 rfl (e_goto mb_301 dX10_isWriting_43 rfl (((h.2 (cb_ge.2.mp q1)).2.2.1 (cb_lt.1.mp q2)).2))) (fun q2 => e_iconst mb_301 dX10_isWriting_38 cv_iconst_0 (e_ireturn mb_301 dX10_isWriting_39 (ri_301 (Or.inl rfl)) ((h.2 (cb_ge.2.mp q1)).2.2.2 (cb_lt.2.mp q2))))))))))))))))))))))))
theorem tb_1024 : ∀ w : Nat, w < 1024 → ishr (w : Int) 10 = 0 := by decide +kernel
theorem ishr10 {w : Int} (h : 1024 ≤ w ∧ w < 2147483648) : ishr w 10 ≠ 0 := by
  have e := ishr_eq (x := w) (n := 10) (by omega) (by omega)
  have e2 : ishr w 10 = w / 2 ^ 10 := e
  rw [e2]
  omega
theorem v_301 {N : Nat} {sc : Nat × (Nat → Int)} {I : IH} {L : LH} {R : RH} {K : KH} {Q : AQ} {w : Int} (hL : Lay R K) (hI : Inv N I L R K) (hw : w < 2147483648) (h1 : (0 ≤ w ∧ w < 1024) ∧ DigOK I (dgW w) → Q (some (aI 1)) I L R K) (h0 : ¬ ((0 ≤ w ∧ w < 1024) ∧ DigOK I (dgW w)) → Q (some (aI 0)) I L R K) : E sc 301 0 [some (aR (some 36)), some (aI w), none] [] I L R K Q := by
  have hW := iW hI
  refine w_301_0 hL ⟨fun q1 => h0 (fun g => by omega), fun q1 => ⟨fun q2 => ?_, fun q2 => h0 (fun g => ?_)⟩⟩
  · have hw2 : w < 1024 := by
      by_cases q : w < 1024
      · exact q
      · exact absurd q2 (ishr10 (by omega))
    obtain ⟨v, rfl⟩ : ∃ v : Nat, w = (v : Int) := ⟨w.toNat, by omega⟩
    have edg : ∀ k, dgW (v : Int) k = v / 4 ^ k % 4 := fun k => by unfold dgW; rw [Int.toNat_natCast]
    have key : (fun k : Nat => ∀ y : Int, y = (k : Int) → (∀ i, i < k → (I 111 i ≤ 0 → dgW (v : Int) i = 0) ∧ (0 < I 111 i → (dgW (v : Int) i : Int) < I 111 i)) → E sc 301 15 [some (aR (some 36)), some (aI (v : Int)), some (aI y)] [] I L R K Q) 0 := by
      refine loop_up (C := fun k : Nat => ∀ y : Int, y = (k : Int) → (∀ i, i < k → (I 111 i ≤ 0 → dgW (v : Int) i = 0) ∧ (0 < I 111 i → (dgW (v : Int) i : Int) < I 111 i)) → E sc 301 15 [some (aR (some 36)), some (aI (v : Int)), some (aI y)] [] I L R K Q) 5 ?_ ?_
      · intro k hk hc y hy hi
        subst hy
        have eb := tb_dig v (by omega) k hk
        have e39 := hW.1 k hk
        have ed := edg k
        refine w_301_15 hL ?_
        simp only [Int.toNat_natCast]
        rw [eb, ← ed, e39.1]
        refine ⟨fun q3 => by omega, fun q3 => ⟨by omega, by omega, fun q4 => ⟨by omega, hc _ (by omega) (fun i hik => ?_)⟩, fun q4 => h0 (fun g => ?_)⟩⟩
        · by_cases q : i = k
          · subst q; omega
          · exact hi i (by omega)
        · have := g.2 k hk
          omega
      · intro y hy hi
        subst hy
        exact w_301_15 hL ⟨fun q3 => h1 ⟨⟨by omega, by omega⟩, hi⟩, fun q3 => by omega⟩
    exact key _ rfl (fun i hi => by omega)
  · have := tb_1024 w.toNat (by omega)
    rw [show ((w.toNat : Nat) : Int) = w by omega] at this
    exact q2 this
