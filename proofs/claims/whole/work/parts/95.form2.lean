/-! parts -/
/-- form k holds for value c % 4 of field c / 4 -/
abbrev hcP (c k : Nat) : Prop := k / 12 = c / 4 ∧ (c / 4 = 2 → c % 4 < 3) ∧ (c / 4 = 4 → c % 4 < 2) ∧ ((k / 4 % 3 = 0 ∧ c % 4 < k % 4) ∨ (k / 4 % 3 = 1 ∧ c % 4 = k % 4) ∨ (k / 4 % 3 = 2 ∧ k % 4 < c % 4))
def holdC (I : IH) (d : Int) (c m : Nat) : Int := sumTo (fun k => (if leftB I d (k : Int) = true ∧ hcP c k then 1 else 0 : Int)) m
theorem holdC_b {I : IH} {d : Int} {c : Nat} : ∀ m, 0 ≤ holdC I d c m ∧ holdC I d c m ≤ m := by
  intro m
  induction m with
  | zero => exact ⟨Int.le_refl _, Int.le_refl _⟩
  | succ m ih =>
    unfold holdC at ih ⊢
    rw [sumTo_succ]
    show 0 ≤ _ + (if leftB I d (m : Int) = true ∧ hcP c m then 1 else 0 : Int) ∧ _ + (if leftB I d (m : Int) = true ∧ hcP c m then 1 else 0 : Int) ≤ _
    split <;> omega
def addH (J : IH) (f v : Nat) : IH := fun a j => if a = 26 ∧ j < 24 ∧ hcP j f ∧ j % 4 < v then J a j + 1 else J a j
theorem w_181_0 {sc : Nat × (Nat → Int)} {I : IH} {L : LH} {R : RH} {K : KH} {Q : AQ} {a0 : Int} (hL : Lay R K) (h : ((0 : Int) ≤ a0 ∧ a0 < (2147483648 : Int)) ∧ E sc 181 7 [some (aR (some 22)), some (aI a0), some (aI (a0 / 12)), some (aI 0)] [] I L R K Q) : E sc 181 0 [some (aR (some 22)), some (aI a0), none, none] [] I L R K Q :=
  e_iload_n mb_181 dX0_countHoldingOf_0 rfl (e_bipush mb_181 dX0_countHoldingOf_1 cv_bipush_12 (e_idiv mb_181 dX0_countHoldingOf_3 ⟨h.1, by decide⟩ (e_istore_n (l1 := [some (aR (some 22)), some (aI a0), some (aI (a0 / 12)), none]) mb_181 dX0_countHoldingOf_4 rfl (e_iconst mb_181 dX0_countHoldingOf_5 cv_iconst_0 (e_istore_n (l1 := [some (aR (some 22)), some (aI a0), some (aI (a0 / 12)), some (aI 0)]) mb_181 dX0_countHoldingOf_6 rfl h.2)))))
theorem w_181_7 {sc : Nat × (Nat → Int)} {I : IH} {L : LH} {R : RH} {K : KH} {Q : AQ} {x1 x2 x3 : Int} (hL : Lay R K) (h : (((szF x2) ≤ x3 → Q none I L R K) ∧ (x3 < (szF x2) → ((0 : Int) ≤ x1 ∧ x1 < (2147483648 : Int)) ∧ ((0 : Int) ≤ (x1 / 4) ∧ (x1 / 4) < (2147483648 : Int)) ∧ ((0 : Int) ≤ x1 ∧ x1 < (2147483648 : Int)) ∧ (((((x1 / 4) % 3) = 0 ∧ x3 < (x1 % 4)) ∨ (((x1 / 4) % 3) = 1 ∧ x3 = (x1 % 4)) ∨ (((x1 / 4) % 3) ≠ 0 ∧ ((x1 / 4) % 3) ≠ 1 ∧ (x1 % 4) < x3) → ((-2147483648 : Int) ≤ x2 * 4 ∧ x2 * 4 < (2147483648 : Int)) ∧ ((-2147483648 : Int) ≤ (x2 * 4) + x3 ∧ (x2 * 4) + x3 < (2147483648 : Int)) ∧ (((0 : Int) ≤ ((x2 * 4) + x3) ∧ ((x2 * 4) + x3) < (24 : Int))) ∧ ((-2147483648 : Int) ≤ (I 26 (((x2 * 4) + x3).toNat)) + 1 ∧ (I 26 (((x2 * 4) + x3).toNat)) + 1 < (2147483648 : Int)) ∧ (((0 : Int) ≤ ((x2 * 4) + x3) ∧ ((x2 * 4) + x3) < (24 : Int))) ∧ ((-2147483648 : Int) ≤ x3 + 1 ∧ x3 + 1 < (2147483648 : Int)) ∧ E sc 181 7 [some (aR (some 22)), some (aI x1), some (aI x2), some (aI (x3 + 1))] [] (setF I 26 (((x2 * 4) + x3).toNat) ((I 26 (((x2 * 4) + x3).toNat)) + 1)) L R K Q) ∧ (¬((((x1 / 4) % 3) = 0 ∧ x3 < (x1 % 4)) ∨ (((x1 / 4) % 3) = 1 ∧ x3 = (x1 % 4)) ∨ (((x1 / 4) % 3) ≠ 0 ∧ ((x1 / 4) % 3) ≠ 1 ∧ (x1 % 4) < x3)) → ((-2147483648 : Int) ≤ x3 + 1 ∧ x3 + 1 < (2147483648 : Int)) ∧ E sc 181 7 [some (aR (some 22)), some (aI x1), some (aI x2), some (aI (x3 + 1))] [] I L R K Q))))) : E sc 181 7 [some (aR (some 22)), some (aI x1), some (aI x2), some (aI x3)] [] I L R K Q :=
  e_iload_n mb_181 dX0_countHoldingOf_7 rfl (e_iload_n mb_181 dX0_countHoldingOf_8 rfl (e_callS mb_181 dX0_countHoldingOf_9 mf_181 mf_58 cs_64 rfl rfl rfl rfl (v_58 hL (show E _ _ _ _ (_ :: _) _ _ _ _ _ from e_icmp mb_181 dX0_countHoldingOf_12 rfl (fun q1 => e_return mb_181 dX0_countHoldingOf_50 rv_181 (h.1 (cb_ge.1.mp q1))) (fun q1 => e_iload_n mb_181 dX0_countHoldingOf_15 rfl (e_iload_n mb_181 dX0_countHoldingOf_16 rfl (e_iconst mb_181 dX0_countHoldingOf_17 cv_iconst_4 (e_idiv mb_181 dX0_countHoldingOf_18 ⟨(h.2 (cb_ge.2.mp q1)).1, by decide⟩ (e_iconst mb_181 dX0_countHoldingOf_19 cv_iconst_3 (e_irem mb_181 dX0_countHoldingOf_20 ⟨(h.2 (cb_ge.2.mp q1)).2.1, by decide⟩ (e_iload_n mb_181 dX0_countHoldingOf_21 rfl (e_iconst mb_181 dX0_countHoldingOf_22 cv_iconst_4 (e_irem mb_181 dX0_countHoldingOf_23 ⟨(h.2 (cb_ge.2.mp q1)).2.2.1, by decide⟩ (e_callS mb_181 dX0_countHoldingOf_24 mf_181 mf_61 cs_67 rfl rfl rfl rfl (v_61 hL (show E _ _ _ _ (_ :: _) _ _ _ _ _ from e_ifb_eq mb_181 dX0_countHoldingOf_27 rfl ⟨fun q2 => e_aload_n mb_181 dX0_countHoldingOf_30 rfl (e_getr mb_181 dX0_countHoldingOf_31 mf_181.1 fs_21 fk_0_3 (lk_22 hL) (lr_22_3 hL) (e_iload_n mb_181 dX0_countHoldingOf_34 rfl (e_iconst mb_181 dX0_countHoldingOf_35 cv_iconst_4 (e_imul mb_181 dX0_countHoldingOf_36 ((h.2 (cb_ge.2.mp q1)).2.2.2.1 q2).1 (e_iload_n mb_181 dX0_countHoldingOf_37 rfl (e_iadd mb_181 dX0_countHoldingOf_38 ((h.2 (cb_ge.2.mp q1)).2.2.2.1 q2).2.1 (e_dup2 mb_181 dX0_countHoldingOf_39 ⟨rfl, rfl⟩ (e_ial mb_181 dX0_countHoldingOf_40 (lk_26 hL) (ll_26 hL) ((h.2 (cb_ge.2.mp q1)).2.2.2.1 q2).2.2.1 rfl (e_iconst mb_181 dX0_countHoldingOf_41 cv_iconst_1 (e_iadd mb_181 dX0_countHoldingOf_42 ((h.2 (cb_ge.2.mp q1)).2.2.2.1 q2).2.2.2.1 (e_iastore mb_181 dX0_countHoldingOf_43 (lk_26 hL) (ll_26 hL) ((h.2 (cb_ge.2.mp q1)).2.2.2.1 q2).2.2.2.2.1 (e_iinc (l1 := [some (aR (some 22)), some (aI x1), some (aI x2), some (aI (x3 + 1))]) mb_181 dX0_countHoldingOf_44 rfl ((h.2 (cb_ge.2.mp q1)).2.2.2.1 q2).2.2.2.2.2.1 rfl (e_goto mb_181 dX0_countHoldingOf_47 rfl (((h.2 (cb_ge.2.mp q1)).2.2.2.1 q2).2.2.2.2.2.2)))))))))))))), fun q2 => e_iinc (l1 := [some (aR (some 22)), some (aI x1), some (aI x2), some (aI (x3 + 1))]) mb_181 dX0_countHoldingOf_44 rfl ((h.2 (cb_ge.2.mp q1)).2.2.2.2 q2).1 rfl (e_goto mb_181 dX0_countHoldingOf_47 rfl (((h.2 (cb_ge.2.mp q1)).2.2.2.2 q2).2))⟩))))))))))))))))
theorem v_181 {sc : Nat × (Nat → Int)} {I : IH} {L : LH} {R : RH} {K : KH} {Q : AQ} {f : Nat} (hL : Lay R K) (hf : f < 72) (hb : ∀ c, c < 24 → 0 ≤ I 26 c ∧ I 26 c ≤ 72) (h : Q none (addH I f 4) L R K) : E sc 181 0 [some (aR (some 22)), some (aI (f : Int)), none, none] [] I L R K Q := by
  have e12 : (f : Int) / 12 = ((f / 12 : Nat) : Int) := by omega
  have key : ∀ n : Nat, n ≤ 4 → (∀ x : Nat, szF ((f / 12 : Nat) : Int) = (n : Int) → x ≤ n → E sc 181 7 [some (aR (some 22)), some (aI (f : Int)), some (aI ((f / 12 : Nat) : Int)), some (aI (x : Int))] [] (addH I f x) L R K Q) := by
    intro n hn x hz hx
    have key2 : (fun i : Nat => i ≤ n → E sc 181 7 [some (aR (some 22)), some (aI (f : Int)), some (aI ((f / 12 : Nat) : Int)), some (aI (i : Int))] [] (addH I f i) L R K Q) x := by
      refine loop_upf (C := fun i : Nat => i ≤ n → E sc 181 7 [some (aR (some 22)), some (aI (f : Int)), some (aI ((f / 12 : Nat) : Int)), some (aI (i : Int))] [] (addH I f i) L R K Q) n ?_ ?_ x hx
      · intro i hi hc _
        have hc := hc (by omega)
        have hzz : szF ((f / 12 : Nat) : Int) = if f / 12 = 2 then 3 else if f / 12 = 4 then 2 else 4 := by
          unfold szF
          by_cases q1 : f / 12 = 2
          · rw [if_pos (by omega), if_pos q1]
          · rw [if_neg (by omega), if_neg q1]
            by_cases q2 : f / 12 = 4
            · rw [if_pos (by omega), if_pos q2]
            · rw [if_neg (by omega), if_neg q2]
        have hz2 : (f / 12 = 2 → i < 3) ∧ (f / 12 = 4 → i < 2) := by
          rw [hz] at hzz
          by_cases q1 : f / 12 = 2
          · rw [if_pos q1] at hzz; omega
          · rw [if_neg q1] at hzz
            by_cases q2 : f / 12 = 4
            · rw [if_pos q2] at hzz; omega
            · omega
        have ecell : (((f / 12 : Nat) : Int) * 4 + (i : Int)).toNat = 4 * (f / 12) + i := by omega
        have ea : addH I f i 26 (4 * (f / 12) + i) = I 26 (4 * (f / 12) + i) := by
          unfold addH
          rw [if_neg (fun q => by have := q.2.2.2; omega)]
        have hbc := hb (4 * (f / 12) + i) (by omega)
        refine w_181_7 hL ?_
        simp only [ecell, Int.toNat_natCast]
        rw [hz, ea]
        refine ⟨fun q1 => by omega, fun q1 => ⟨by omega, by omega, by omega, fun q2 => ⟨by omega, by omega, by omega, by omega, by omega, by omega, ?_⟩, fun q2 => ⟨by omega, ?_⟩⟩⟩
        · have e : setF (addH I f i) 26 (4 * (f / 12) + i) (I 26 (4 * (f / 12) + i) + 1) = addH I f (i + 1) := by
            funext a j
            unfold setF
            by_cases q : a = 26 ∧ j = 4 * (f / 12) + i
            · obtain ⟨qa, qj⟩ := q
              subst qa
              subst qj
              rw [if_pos ⟨rfl, rfl⟩]
              unfold addH
              rw [if_pos ⟨rfl, by omega, ⟨by omega, fun _ => by omega, fun _ => by omega, by omega⟩, by omega⟩]
            · rw [if_neg q]
              unfold addH
              by_cases q3 : a = 26 ∧ j < 24 ∧ hcP j f ∧ j % 4 < i
              · rw [if_pos q3, if_pos ⟨q3.1, q3.2.1, q3.2.2.1, by omega⟩]
              · rw [if_neg q3, if_neg (fun g => q3 ⟨g.1, g.2.1, g.2.2.1, by
                  have g1 := g.2.2.1.1
                  have g2 := g.2.2.2
                  have g3 := g.1
                  have : j ≠ 4 * (f / 12) + i := fun e => q ⟨g3, e⟩
                  omega⟩)]
          rw [e]
          exact hc
        · have e : addH I f i = addH I f (i + 1) := by
            funext a j
            unfold addH
            by_cases q3 : a = 26 ∧ j < 24 ∧ hcP j f ∧ j % 4 < i
            · rw [if_pos q3, if_pos ⟨q3.1, q3.2.1, q3.2.2.1, by omega⟩]
            · rw [if_neg q3, if_neg (fun g => q3 ⟨g.1, g.2.1, g.2.2.1, by
                have g1 := g.2.2.1
                have g2 := g.2.2.2
                have : ¬ (j % 4 = i) := fun e => by
                  have := g1.2.2.2
                  omega
                omega⟩)]
          rw [e]
          exact hc
      · intro _
        refine w_181_7 hL ⟨fun q1 => ?_, fun q1 => by rw [hz] at q1; omega⟩
        have e : addH I f n = addH I f 4 := by
          funext a j
          have hzz : szF ((f / 12 : Nat) : Int) = if f / 12 = 2 then 3 else if f / 12 = 4 then 2 else 4 := by
            unfold szF
            by_cases q1 : f / 12 = 2
            · rw [if_pos (by omega), if_pos q1]
            · rw [if_neg (by omega), if_neg q1]
              by_cases q2 : f / 12 = 4
              · rw [if_pos (by omega), if_pos q2]
              · rw [if_neg (by omega), if_neg q2]
          rw [hz] at hzz
          unfold addH
          by_cases q3 : a = 26 ∧ j < 24 ∧ hcP j f ∧ j % 4 < n
          · rw [if_pos q3, if_pos ⟨q3.1, q3.2.1, q3.2.2.1, by omega⟩]
          · rw [if_neg q3, if_neg (fun g => q3 ⟨g.1, g.2.1, g.2.2.1, by
              have g1 := g.2.2.1.1
              have g2 := g.2.2.1.2.1
              have g3 := g.2.2.1.2.2.1
              by_cases r1 : f / 12 = 2
              · rw [if_pos r1] at hzz; have := g2 (by omega); omega
              · rw [if_neg r1] at hzz
                by_cases r2 : f / 12 = 4
                · rw [if_pos r2] at hzz; have := g3 (by omega); omega
                · rw [if_neg r2] at hzz; omega⟩)]
        rw [e]
        exact h
    exact key2 hx
  refine w_181_0 hL ⟨by omega, ?_⟩
  rw [e12]
  have e0 : addH I f 0 = I := by
    funext a j
    unfold addH
    rw [if_neg (fun q => by have := q.2.2.2; omega)]
  have hsz : ∃ n : Nat, n ≤ 4 ∧ szF ((f / 12 : Nat) : Int) = (n : Int) := by
    unfold szF
    split
    · exact ⟨3, by omega, rfl⟩
    · split
      · exact ⟨2, by omega, rfl⟩
      · exact ⟨4, by omega, rfl⟩
  obtain ⟨n, hn, hz⟩ := hsz
  have := key n hn 0 hz (Nat.zero_le _)
  rw [e0] at this
  exact this
/-- the class's counts of the first m forms -/
def hpH (I : IH) (d : Int) (m : Nat) : IH := fun a j => if a = 22 ∧ j = 4 then allL I d m else if a = 26 ∧ j < 24 then holdC I d j m else I a j
theorem hpH_yes {I : IH} {d : Int} {m : Nat} (h : leftB I d (m : Int) = true) : addH (setF (hpH I d m) 22 4 (hpH I d m 22 4 + 1)) m 4 = hpH I d (m + 1) := by
  funext a j
  have e1 : allL I d (m + 1) = allL I d m + 1 := by
    show allL I d m + (if leftB I d (m : Int) = true then 1 else 0 : Int) = _
    rw [if_pos h]
  have e2 : holdC I d j (m + 1) = holdC I d j m + (if hcP j m then 1 else 0) := by
    show holdC I d j m + (if leftB I d (m : Int) = true ∧ hcP j m then 1 else 0 : Int) = _
    by_cases q : hcP j m
    · rw [if_pos ⟨h, q⟩, if_pos q]
    · rw [if_neg (fun g => q g.2), if_neg q]
  unfold addH setF hpH
  by_cases q1 : a = 22 ∧ j = 4
  · obtain ⟨qa, qj⟩ := q1
    subst qa; subst qj
    rw [if_neg (fun g => by have := g.1; omega), if_pos ⟨rfl, rfl⟩, if_pos ⟨rfl, rfl⟩, if_pos ⟨rfl, rfl⟩, e1]
  · by_cases q2 : a = 26 ∧ j < 24
    · obtain ⟨qa, qj⟩ := q2
      subst qa
      by_cases q3 : hcP j m
      · rw [if_pos ⟨rfl, qj, q3, by omega⟩, if_neg q1, if_neg q1, if_pos ⟨rfl, qj⟩, if_neg q1, if_pos ⟨rfl, qj⟩, e2, if_pos q3]
      · rw [if_neg (fun g => q3 g.2.2.1), if_neg q1, if_neg q1, if_pos ⟨rfl, qj⟩, if_neg q1, if_pos ⟨rfl, qj⟩, e2, if_neg q3]
        omega
    · rw [if_neg (fun g => q2 ⟨g.1, g.2.1⟩), if_neg q1, if_neg q1, if_neg q2, if_neg q1, if_neg q2]
theorem hpH_no {I : IH} {d : Int} {m : Nat} (h : ¬ leftB I d (m : Int) = true) : hpH I d m = hpH I d (m + 1) := by
  funext a j
  have e1 : allL I d (m + 1) = allL I d m := by
    show allL I d m + (if leftB I d (m : Int) = true then 1 else 0 : Int) = _
    rw [if_neg h]; omega
  have e2 : holdC I d j (m + 1) = holdC I d j m := by
    show holdC I d j m + (if leftB I d (m : Int) = true ∧ hcP j m then 1 else 0 : Int) = _
    rw [if_neg (fun g => h g.1)]; omega
  unfold hpH
  rw [e1, e2]
theorem w_180_0 {sc : Nat × (Nat → Int)} {I : IH} {L : LH} {R : RH} {K : KH} {Q : AQ} {a0 : Int} (hL : Lay R K) (h : ((K.1 26 = 100) ∧ (K.2.1 26 ≤ 65536)) ∧ E sc 180 15 [some (aR (some 22)), some (aI a0), some (aI 0)] [] (setF (fillF I 26 (K.2.1 26) 0) 22 4 0) L R K Q) : E sc 180 0 [some (aR (some 22)), some (aI a0), none] [] I L R K Q :=
  e_aload_n mb_180 dX0_countHolding_0 rfl (e_getr mb_180 dX0_countHolding_1 mf_180.1 fs_21 fk_0_3 (lk_22 hL) (lr_22_3 hL) (e_iconst mb_180 dX0_countHolding_4 cv_iconst_0 (e_callS mb_180 dX0_countHolding_5 mf_180 mf_319 cs_55 rfl rfl rfl rfl (v_319 hL h.1.1 h.1.2 (show E _ _ _ _ [] _ _ _ _ _ from e_aload_n mb_180 dX0_countHolding_8 rfl (e_iconst mb_180 dX0_countHolding_9 cv_iconst_0 (e_puti mb_180 dX0_countHolding_10 mf_180.1 fs_44 fk_0_4 (Or.inl ff_0_4) (lk_22 hL) (e_iconst mb_180 dX0_countHolding_13 cv_iconst_0 (e_istore_n (l1 := [some (aR (some 22)), some (aI a0), some (aI 0)]) mb_180 dX0_countHolding_14 rfl h.2)))))))))
theorem w_180_15 {sc : Nat × (Nat → Int)} {I : IH} {L : LH} {R : RH} {K : KH} {Q : AQ} {x1 x2 : Int} (hL : Lay R K) (h : ((72 ≤ x2 → Q none I L R K) ∧ (x2 < 72 → ((InvC I ∧ 0 ≤ x2 ∧ x2 < 72)) ∧ ((leftB I x1 x2 = true → ((-2147483648 : Int) ≤ (I 22 4) + 1 ∧ (I 22 4) + 1 < (2147483648 : Int)) ∧ E sc 180 42 [some (aR (some 22)), some (aI x1), some (aI x2)] [aI x2, aR (some 22)] (setF I 22 4 ((I 22 4) + 1)) L R K Q) ∧ (¬(leftB I x1 x2 = true) → ((-2147483648 : Int) ≤ x2 + 1 ∧ x2 + 1 < (2147483648 : Int)) ∧ E sc 180 15 [some (aR (some 22)), some (aI x1), some (aI (x2 + 1))] [] I L R K Q))))) : E sc 180 15 [some (aR (some 22)), some (aI x1), some (aI x2)] [] I L R K Q :=
  e_iload_n mb_180 dX0_countHolding_15 rfl (e_bipush mb_180 dX0_countHolding_16 cv_bipush_72 (e_icmp mb_180 dX0_countHolding_18 rfl (fun q1 => e_return mb_180 dX0_countHolding_51 rv_180 (h.1 (cb_ge.1.mp q1))) (fun q1 => e_aload_n mb_180 dX0_countHolding_21 rfl (e_iload_n mb_180 dX0_countHolding_22 rfl (e_iload_n mb_180 dX0_countHolding_23 rfl (e_callV mb_180 dX0_countHolding_24 mf_180 mf_182 cs_28 rfl rfl rfl rfl (lk_22 hL) rfl (v_182 hL (h.2 (cb_ge.2.mp q1)).1 (show E _ _ _ _ (_ :: _) _ _ _ _ _ from e_ifb_eq mb_180 dX0_countHolding_27 rfl ⟨fun q2 => e_aload_n mb_180 dX0_countHolding_30 rfl (e_dup mb_180 dX0_countHolding_31 rfl (e_getv mb_180 dX0_countHolding_32 mf_180.1 fs_44 (Or.inl fk_0_4) (lk_22 hL) rfl (e_iconst mb_180 dX0_countHolding_35 cv_iconst_1 (e_iadd mb_180 dX0_countHolding_36 ((h.2 (cb_ge.2.mp q1)).2.1 q2).1 (e_puti mb_180 dX0_countHolding_37 mf_180.1 fs_44 fk_0_4 (Or.inl ff_0_4) (lk_22 hL) (e_aload_n mb_180 dX0_countHolding_40 rfl (e_iload_n mb_180 dX0_countHolding_41 rfl (((h.2 (cb_ge.2.mp q1)).2.1 q2).2)))))))), fun q2 => e_iinc (l1 := [some (aR (some 22)), some (aI x1), some (aI (x2 + 1))]) mb_180 dX0_countHolding_45 rfl ((h.2 (cb_ge.2.mp q1)).2.2 q2).1 rfl (e_goto mb_180 dX0_countHolding_48 rfl (((h.2 (cb_ge.2.mp q1)).2.2 q2).2))⟩))))))))
theorem w_180_45 {sc : Nat × (Nat → Int)} {I : IH} {L : LH} {R : RH} {K : KH} {Q : AQ} {x1 x2 : Int} (hL : Lay R K) (h : ((-2147483648 : Int) ≤ x2 + 1 ∧ x2 + 1 < (2147483648 : Int)) ∧ E sc 180 15 [some (aR (some 22)), some (aI x1), some (aI (x2 + 1))] [] I L R K Q) : E sc 180 45 [some (aR (some 22)), some (aI x1), some (aI x2)] [] I L R K Q :=
  e_iinc (l1 := [some (aR (some 22)), some (aI x1), some (aI (x2 + 1))]) mb_180 dX0_countHolding_45 rfl h.1 rfl (e_goto mb_180 dX0_countHolding_48 rfl (h.2))
theorem v_180 {sc : Nat × (Nat → Int)} {I : IH} {L : LH} {R : RH} {K : KH} {Q : AQ} {a0 : Int} (hL : Lay R K) (hp : InvC I) (h : Q none (hpH I a0 72) L R K) : E sc 180 0 [some (aR (some 22)), some (aI a0), none] [] I L R K Q := by
  have key : (fun m : Nat => ∀ x : Int, x = (m : Int) → E sc 180 15 [some (aR (some 22)), some (aI a0), some (aI x)] [] (hpH I a0 m) L R K Q) 0 := by
    refine loop_up (C := fun m : Nat => ∀ x : Int, x = (m : Int) → E sc 180 15 [some (aR (some 22)), some (aI a0), some (aI x)] [] (hpH I a0 m) L R K Q) 72 ?_ ?_
    · intro m hm hc x hx
      subst hx
      have hcI : InvC (hpH I a0 m) := hp
      have el : leftB (hpH I a0 m) a0 (m : Int) = leftB I a0 (m : Int) := rfl
      have ba : hpH I a0 m 22 4 = allL I a0 m := rfl
      have bb := allL_b (I := I) (d := a0) m
      refine w_180_15 hL ?_
      rw [el]
      refine ⟨fun q1 => by omega, fun q1 => ⟨⟨hcI, by omega⟩, fun q2 => ⟨by rw [ba]; omega, ?_⟩, fun q2 => ⟨by omega, ?_⟩⟩⟩
      · rw [← hpH_yes q2] at hc
        refine e_callV mb_180 dX0_countHolding_42 mf_180 mf_181 cs_61 rfl rfl rfl rfl (lk_22 hL) rfl (v_181 hL hm (fun c hc24 => ?_) (w_180_45 hL ⟨by omega, hc _ (by omega)⟩))
        have e : setF (hpH I a0 m) 22 4 (hpH I a0 m 22 4 + 1) 26 c = holdC I a0 c m := by
          rw [setF_c (by omega)]
          show (if 26 = 22 ∧ c = 4 then _ else if 26 = 26 ∧ c < 24 then holdC I a0 c m else I 26 c) = _
          rw [if_neg (by omega), if_pos ⟨rfl, hc24⟩]
        rw [e]
        have := holdC_b (I := I) (d := a0) (c := c) m
        omega
      · rw [← hpH_no q2] at hc
        exact hc _ (by omega)
    · intro x hx
      subst hx
      exact w_180_15 hL ⟨fun q1 => h, fun q1 => by omega⟩
  refine w_180_0 hL ⟨⟨lk_26 hL, by rw [ll_26 hL]; omega⟩, ?_⟩
  rw [ll_26 hL]
  have e : setF (fillF I 26 24 0) 22 4 0 = hpH I a0 0 := by
    funext a j
    unfold setF fillF hpH
    by_cases q1 : a = 22 ∧ j = 4
    · rw [if_pos q1, if_pos q1]; rfl
    · rw [if_neg q1, if_neg q1]
      by_cases q2 : a = 26 ∧ j < 24
      · rw [if_pos q2, if_pos q2]; rfl
      · rw [if_neg q2, if_neg q2]
  rw [e]
  exact key _ rfl
def cntS (I : IH) (d s : Int) (m : Nat) : Int := sumTo (fun k => (if leftB I d (k : Int) = true ∧ frmP (k : Int) s then 1 else 0 : Int)) m
theorem cntS_b {I : IH} {d s : Int} : ∀ m, 0 ≤ cntS I d s m ∧ cntS I d s m ≤ allL I d m := by
  intro m
  induction m with
  | zero => exact ⟨Int.le_refl _, Int.le_refl _⟩
  | succ m ih =>
    have e1 : cntS I d s (m + 1) = cntS I d s m + (if leftB I d (m : Int) = true ∧ frmP (m : Int) s then 1 else 0 : Int) := rfl
    have e2 : allL I d (m + 1) = allL I d m + (if leftB I d (m : Int) = true then 1 else 0 : Int) := rfl
    rw [e1, e2]
    by_cases q : leftB I d (m : Int) = true
    · rw [if_pos q]
      split <;> omega
    · rw [if_neg q, if_neg (fun g => q g.1)]; omega
def lesS (I : IH) (d s : Int) : Int := min (cntS I d s 72) (allL I d 72 - cntS I d s 72)
def lesN (J : IH) (s : Int) : Int := min (sumTo (fun (f : Nat) => J 26 (4 * f + (fldO s (f : Int)).toNat)) 6) (J 22 4 - sumTo (fun (f : Nat) => J 26 (4 * f + (fldO s (f : Int)).toNat)) 6)
theorem fldO_b {s : Int} (hs : 0 ≤ s ∧ s < 1536) {f : Nat} (hf : f < 6) : 0 ≤ fldO s (f : Int) ∧ fldO s (f : Int) ≤ 3 ∧ (f = 2 → fldO s (f : Int) < 3) ∧ (f = 4 → fldO s (f : Int) < 2) := by
  unfold fldO
  have h : f = 0 ∨ f = 1 ∨ f = 2 ∨ f = 3 ∨ f = 4 ∨ f = 5 := by omega
  rcases h with rfl | rfl | rfl | rfl | rfl | rfl
  · rw [if_pos (by decide)]; omega
  · rw [if_neg (by decide), if_pos (by decide)]; omega
  · rw [if_neg (by decide), if_neg (by decide), if_pos (by decide)]; omega
  · rw [if_neg (by decide), if_neg (by decide), if_neg (by decide), if_pos (by decide)]; omega
  · rw [if_neg (by decide), if_neg (by decide), if_neg (by decide), if_neg (by decide), if_pos (by decide)]; omega
  · rw [if_neg (by decide), if_neg (by decide), if_neg (by decide), if_neg (by decide), if_neg (by decide)]; omega
theorem hc_frm {s : Int} (hs : 0 ≤ s ∧ s < 1536) {f k : Nat} (hf : f < 6) (hk : k < 72) : hcP (4 * f + (fldO s (f : Int)).toNat) k ↔ (k / 12 = f ∧ frmP (k : Int) s) := by
  have b := fldO_b hs hf
  obtain ⟨v, hv⟩ : ∃ v : Nat, fldO s (f : Int) = (v : Int) := ⟨(fldO s (f : Int)).toNat, by omega⟩
  rw [hv, Int.toNat_natCast]
  rw [hv] at b
  have e1 : (4 * f + v) / 4 = f := by omega
  have e2 : (4 * f + v) % 4 = v := by omega
  unfold hcP frmP
  rw [e1, e2]
  constructor
  · intro ⟨g1, g2, g3, g4⟩
    refine ⟨g1, ?_⟩
    rw [show (k : Int) / 12 = (f : Int) by omega, hv]
    omega
  · intro ⟨g1, g2⟩
    rw [show (k : Int) / 12 = (f : Int) by omega, hv] at g2
    exact ⟨g1, by omega, by omega, by omega⟩
theorem sumTo_swap {g : Nat → Nat → Int} {a : Nat} : ∀ b, sumTo (fun f => sumTo (fun k => g f k) b) a = sumTo (fun k => sumTo (fun f => g f k) a) b := by
  intro b
  induction b with
  | zero =>
    have : ∀ a, sumTo (fun f => sumTo (fun k => g f k) 0) a = 0 := by
      intro a
      induction a with
      | zero => rfl
      | succ a ih => rw [sumTo_succ, ih]; rfl
    exact this a
  | succ b ih =>
    rw [sumTo_succ, ← ih]
    have : ∀ a, sumTo (fun f => sumTo (fun k => g f k) (b + 1)) a = sumTo (fun f => sumTo (fun k => g f k) b) a + sumTo (fun f => g f b) a := by
      intro a
      induction a with
      | zero => rfl
      | succ a ih =>
        have e1 := sumTo_succ (fun f => sumTo (fun k => g f k) (b + 1)) a
        have e2 := sumTo_succ (fun f => sumTo (fun k => g f k) b) a
        have e3 := sumTo_succ (fun f => g f b) a
        have e4 : sumTo (fun k => g a k) (b + 1) = sumTo (fun k => g a k) b + g a b := rfl
        rw [e1, e2, e3, ih, e4]
        omega
    exact this a
theorem sum_one {p : Prop} [Decidable p] {x : Nat} : ∀ n, sumTo (fun f => (if x = f ∧ p then 1 else 0 : Int)) n = if x < n ∧ p then 1 else 0 := by
  intro n
  induction n with
  | zero => rw [if_neg (by omega)]; rfl
  | succ n ih =>
    rw [sumTo_succ, ih]
    show _ + (if x = n ∧ p then 1 else 0 : Int) = _
    by_cases q : p
    · by_cases q1 : x = n
      · rw [if_neg (show ¬ (x < n ∧ p) from fun g => by have := g.1; omega), if_pos ⟨q1, q⟩, if_pos ⟨by omega, q⟩]; omega
      · by_cases q2 : x < n
        · rw [if_pos ⟨q2, q⟩, if_neg (fun g => q1 g.1), if_pos ⟨by omega, q⟩]; omega
        · rw [if_neg (fun g => q2 g.1), if_neg (fun g => q1 g.1), if_neg (fun g => by have := g.1; omega)]; omega
    · rw [if_neg (fun g => q g.2), if_neg (fun g => q g.2), if_neg (fun g => q g.2)]; omega
theorem hold_sum {I : IH} {d s : Int} (hs : 0 ≤ s ∧ s < 1536) : sumTo (fun (f : Nat) => hpH I d 72 26 (4 * f + (fldO s (f : Int)).toNat)) 6 = cntS I d s 72 := by
  have e1 : sumTo (fun (f : Nat) => hpH I d 72 26 (4 * f + (fldO s (f : Int)).toNat)) 6 = sumTo (fun (f : Nat) => sumTo (fun (k : Nat) => (if k / 12 = f ∧ (leftB I d (k : Int) = true ∧ frmP (k : Int) s) then 1 else 0 : Int)) 72) 6 := by
    refine sumTo_congr _ (fun f hf => ?_)
    have b := fldO_b hs hf
    show (if 26 = 22 ∧ 4 * f + (fldO s (f : Int)).toNat = 4 then allL I d 72 else if 26 = 26 ∧ 4 * f + (fldO s (f : Int)).toNat < 24 then holdC I d (4 * f + (fldO s (f : Int)).toNat) 72 else I 26 (4 * f + (fldO s (f : Int)).toNat)) = _
    rw [if_neg (by omega), if_pos ⟨rfl, by omega⟩]
    refine sumTo_congr _ (fun k hk => ?_)
    have hh := hc_frm hs hf hk
    by_cases q : leftB I d (k : Int) = true ∧ hcP (4 * f + (fldO s (f : Int)).toNat) k
    · have := hh.1 q.2
      rw [if_pos q, if_pos ⟨this.1, q.1, this.2⟩]
    · rw [if_neg q, if_neg (fun g => q ⟨g.2.1, hh.2 ⟨g.1, g.2.2⟩⟩)]
  rw [e1, sumTo_swap]
  refine sumTo_congr _ (fun k hk => ?_)
  show sumTo (fun f => (if k / 12 = f ∧ (leftB I d (k : Int) = true ∧ frmP (k : Int) s) then 1 else 0 : Int)) 6 = _
  rw [sum_one]
  by_cases q : leftB I d (k : Int) = true ∧ frmP (k : Int) s
  · rw [if_pos ⟨by omega, q⟩, if_pos q]
  · rw [if_neg (fun g => q g.2), if_neg q]
theorem lesN_eq {I : IH} {d s : Int} (hs : 0 ≤ s ∧ s < 1536) : lesN (hpH I d 72) s = lesS I d s := by
  unfold lesN lesS
  rw [hold_sum hs]
  rfl
theorem w_177_0 {sc : Nat × (Nat → Int)} {I : IH} {L : LH} {R : RH} {K : KH} {Q : AQ} {a0 : Int} (hL : Lay R K) (h : E sc 177 4 [some (aR (some 22)), some (aI a0), some (aI 0), some (aI 0)] [] I L R K Q) : E sc 177 0 [some (aR (some 22)), some (aI a0), none, none] [] I L R K Q :=
  e_iconst mb_177 dX0_lesserPart_0 cv_iconst_0 (e_istore_n (l1 := [some (aR (some 22)), some (aI a0), some (aI 0), none]) mb_177 dX0_lesserPart_1 rfl (e_iconst mb_177 dX0_lesserPart_2 cv_iconst_0 (e_istore_n (l1 := [some (aR (some 22)), some (aI a0), some (aI 0), some (aI 0)]) mb_177 dX0_lesserPart_3 rfl h)))
theorem w_177_4 {sc : Nat × (Nat → Int)} {I : IH} {L : LH} {R : RH} {K : KH} {Q : AQ} {x1 x2 x3 : Int} (hL : Lay R K) (h : ((6 ≤ x3 → ((-2147483648 : Int) ≤ (I 22 4) - x2 ∧ (I 22 4) - x2 < (2147483648 : Int)) ∧ Q (some (aI (min x2 ((I 22 4) - x2)))) I L R K) ∧ (x3 < 6 → ((-2147483648 : Int) ≤ x3 * 4 ∧ x3 * 4 < (2147483648 : Int)) ∧ ((0 ≤ x1 ∧ x1 < 2147483648)) ∧ ((-2147483648 : Int) ≤ (x3 * 4) + (fldO x1 x3) ∧ (x3 * 4) + (fldO x1 x3) < (2147483648 : Int)) ∧ (((0 : Int) ≤ ((x3 * 4) + (fldO x1 x3)) ∧ ((x3 * 4) + (fldO x1 x3)) < (24 : Int))) ∧ ((-2147483648 : Int) ≤ x2 + (I 26 (((x3 * 4) + (fldO x1 x3)).toNat)) ∧ x2 + (I 26 (((x3 * 4) + (fldO x1 x3)).toNat)) < (2147483648 : Int)) ∧ ((-2147483648 : Int) ≤ x3 + 1 ∧ x3 + 1 < (2147483648 : Int)) ∧ E sc 177 4 [some (aR (some 22)), some (aI x1), some (aI (x2 + (I 26 (((x3 * 4) + (fldO x1 x3)).toNat)))), some (aI (x3 + 1))] [] I L R K Q))) : E sc 177 4 [some (aR (some 22)), some (aI x1), some (aI x2), some (aI x3)] [] I L R K Q :=
  e_iload_n mb_177 dX0_lesserPart_4 rfl (e_bipush mb_177 dX0_lesserPart_5 cv_bipush_6 (e_icmp mb_177 dX0_lesserPart_7 rfl (fun q1 => e_iload_n mb_177 dX0_lesserPart_33 rfl (e_aload_n mb_177 dX0_lesserPart_34 rfl (e_getv mb_177 dX0_lesserPart_35 mf_177.1 fs_44 (Or.inl fk_0_4) (lk_22 hL) rfl (e_iload_n mb_177 dX0_lesserPart_38 rfl (e_isub mb_177 dX0_lesserPart_39 (h.1 (cb_ge.1.mp q1)).1 (e_min mb_177 dX0_lesserPart_40 mf_177 cs_47 rfl rfl (e_ireturn mb_177 dX0_lesserPart_43 ri_177 (h.1 (cb_ge.1.mp q1)).2))))))) (fun q1 => e_iload_n mb_177 dX0_lesserPart_10 rfl (e_aload_n mb_177 dX0_lesserPart_11 rfl (e_getr mb_177 dX0_lesserPart_12 mf_177.1 fs_21 fk_0_3 (lk_22 hL) (lr_22_3 hL) (e_iload_n mb_177 dX0_lesserPart_15 rfl (e_iconst mb_177 dX0_lesserPart_16 cv_iconst_4 (e_imul mb_177 dX0_lesserPart_17 (h.2 (cb_ge.2.mp q1)).1 (e_iload_n mb_177 dX0_lesserPart_18 rfl (e_iload_n mb_177 dX0_lesserPart_19 rfl (e_callS mb_177 dX0_lesserPart_20 mf_177 mf_59 cs_40 rfl rfl rfl rfl (v_59 hL (h.2 (cb_ge.2.mp q1)).2.1 (show E _ _ _ _ (_ :: _) _ _ _ _ _ from e_iadd mb_177 dX0_lesserPart_23 (h.2 (cb_ge.2.mp q1)).2.2.1 (e_ial mb_177 dX0_lesserPart_24 (lk_26 hL) (ll_26 hL) (h.2 (cb_ge.2.mp q1)).2.2.2.1 rfl (e_iadd mb_177 dX0_lesserPart_25 (h.2 (cb_ge.2.mp q1)).2.2.2.2.1 (e_istore_n (l1 := [some (aR (some 22)), some (aI x1), some (aI (x2 + (I 26 (((x3 * 4) + (fldO x1 x3)).toNat)))), some (aI x3)]) mb_177 dX0_lesserPart_26 rfl (e_iinc (l1 := [some (aR (some 22)), some (aI x1), some (aI (x2 + (I 26 (((x3 * 4) + (fldO x1 x3)).toNat)))), some (aI (x3 + 1))]) mb_177 dX0_lesserPart_27 rfl (h.2 (cb_ge.2.mp q1)).2.2.2.2.2.1 rfl (e_goto mb_177 dX0_lesserPart_30 rfl ((h.2 (cb_ge.2.mp q1)).2.2.2.2.2.2)))))))))))))))))))
theorem v_177 {sc : Nat × (Nat → Int)} {I : IH} {L : LH} {R : RH} {K : KH} {Q : AQ} {a0 : Int} (hL : Lay R K) (hp : (0 ≤ a0 ∧ a0 < 1536) ∧ (0 ≤ I 22 4 ∧ I 22 4 ≤ 72) ∧ ∀ c, c < 24 → 0 ≤ I 26 c ∧ I 26 c ≤ 72) (h : Q (some (aI (lesN I a0))) I L R K) : E sc 177 0 [some (aR (some 22)), some (aI a0), none, none] [] I L R K Q := by
  obtain ⟨hs, h4, hb⟩ := hp
  have bd : ∀ m, m ≤ 6 → 0 ≤ sumTo (fun (f : Nat) => I 26 (4 * f + (fldO a0 (f : Int)).toNat)) m ∧ sumTo (fun (f : Nat) => I 26 (4 * f + (fldO a0 (f : Int)).toNat)) m ≤ 72 * m := by
    intro m
    induction m with
    | zero => intro _; exact ⟨Int.le_refl _, Int.le_refl _⟩
    | succ m ih =>
      intro hm
      have := ih (by omega)
      have b := fldO_b hs (show m < 6 by omega)
      have := hb (4 * m + (fldO a0 (m : Int)).toNat) (by omega)
      rw [sumTo_succ]
      omega
  have key : (fun m : Nat => ∀ (n x : Int), n = sumTo (fun (f : Nat) => I 26 (4 * f + (fldO a0 (f : Int)).toNat)) m → x = (m : Int) → E sc 177 4 [some (aR (some 22)), some (aI a0), some (aI n), some (aI x)] [] I L R K Q) 0 := by
    refine loop_up (C := fun m : Nat => ∀ (n x : Int), n = sumTo (fun (f : Nat) => I 26 (4 * f + (fldO a0 (f : Int)).toNat)) m → x = (m : Int) → E sc 177 4 [some (aR (some 22)), some (aI a0), some (aI n), some (aI x)] [] I L R K Q) 6 ?_ ?_
    · intro m hm hc n x hn hx
      subst hx
      have b := fldO_b hs hm
      have b1 := bd m (by omega)
      have e : ((m : Int) * 4 + fldO a0 (m : Int)).toNat = 4 * m + (fldO a0 (m : Int)).toNat := by omega
      have b2 := hb (4 * m + (fldO a0 (m : Int)).toNat) (by omega)
      refine w_177_4 hL ?_
      rw [e]
      exact ⟨fun q1 => by omega, fun q1 => ⟨by omega, by omega, by omega, by omega, by omega, by omega, hc _ _ (by rw [sumTo_succ, hn]) (by omega)⟩⟩
    · intro n x hn hx
      subst hx
      have b1 := bd 6 (by omega)
      subst hn
      exact w_177_4 hL ⟨fun q1 => ⟨by omega, h⟩, fun q1 => by omega⟩
  exact w_177_0 hL (key _ _ rfl rfl)
def bsgF (g : Nat → Int) : Nat → Int × Int
  | 0 => (-1, -1)
  | s + 1 => if (bsgF g s).2 < g s then ((s : Int), g s) else bsgF g s
theorem bsgF_b {g : Nat → Int} (h : ∀ s, 0 ≤ g s) : ∀ n, 1 ≤ n → 0 ≤ (bsgF g n).1 ∧ (bsgF g n).1 < n ∧ (bsgF g n).2 = g (bsgF g n).1.toNat := by
  intro n
  induction n with
  | zero => intro h; omega
  | succ n ih =>
    intro _
    rw [bsgF]
    by_cases q : (bsgF g n).2 < g n
    · rw [if_pos q]
      exact ⟨by show (0 : Int) ≤ (n : Int); omega, by show (n : Int) < ((n + 1 : Nat) : Int); omega, by show g n = g (n : Int).toNat; rw [Int.toNat_natCast]⟩
    · rw [if_neg q]
      by_cases q0 : n = 0
      · subst q0
        exact absurd (show (-1 : Int) < g 0 by have := h 0; omega) q
      · have := ih (by omega)
        exact ⟨this.1, by omega, this.2.2⟩
theorem lesS_b {I : IH} {d s : Int} : 0 ≤ lesS I d s ∧ lesS I d s ≤ 72 := by
  have := cntS_b (I := I) (d := d) (s := s) 72
  have := allL_b (I := I) (d := d) 72
  unfold lesS
  omega
theorem w_176_0 {sc : Nat × (Nat → Int)} {I : IH} {L : LH} {R : RH} {K : KH} {Q : AQ} {a0 : Int} (hL : Lay R K) (h : ((InvC I)) ∧ (((0 ≤ (0 : Int) ∧ (0 : Int) < 1536) ∧ (0 ≤ (hpH I a0 72) 22 4 ∧ (hpH I a0 72) 22 4 ≤ 72) ∧ ∀ c, c < 24 → 0 ≤ (hpH I a0 72) 26 c ∧ (hpH I a0 72) 26 c ≤ 72)) ∧ E sc 176 16 [some (aR (some 22)), some (aI a0), some (aI 0), some (aI (lesN (hpH I a0 72) (0 : Int))), some (aI 1), none] [] (hpH I a0 72) L R K Q) : E sc 176 0 [some (aR (some 22)), some (aI a0), none, none, none, none] [] I L R K Q :=
  e_aload_n mb_176 dX0_bestParting_0 rfl (e_iload_n mb_176 dX0_bestParting_1 rfl (e_callV mb_176 dX0_bestParting_2 mf_176 mf_180 cs_32 rfl rfl rfl rfl (lk_22 hL) rfl (v_180 hL h.1 (show E _ _ _ _ [] _ _ _ _ _ from e_iconst mb_176 dX0_bestParting_5 cv_iconst_0 (e_istore_n (l1 := [some (aR (some 22)), some (aI a0), some (aI 0), none, none, none]) mb_176 dX0_bestParting_6 rfl (e_aload_n mb_176 dX0_bestParting_7 rfl (e_iconst mb_176 dX0_bestParting_8 cv_iconst_0 (e_callV mb_176 dX0_bestParting_9 mf_176 mf_177 cs_36 rfl rfl rfl rfl (lk_22 hL) rfl (v_177 hL h.2.1 (show E _ _ _ _ (_ :: _) _ _ _ _ _ from e_istore_n (l1 := [some (aR (some 22)), some (aI a0), some (aI 0), some (aI (lesN (hpH I a0 72) (0 : Int))), none, none]) mb_176 dX0_bestParting_12 rfl (e_iconst mb_176 dX0_bestParting_13 cv_iconst_1 (e_istore (l1 := [some (aR (some 22)), some (aI a0), some (aI 0), some (aI (lesN (hpH I a0 72) (0 : Int))), some (aI 1), none]) mb_176 dX0_bestParting_14 rfl h.2.2))))))))))))
theorem w_176_16 {sc : Nat × (Nat → Int)} {I : IH} {L : LH} {R : RH} {K : KH} {Q : AQ} {x2 x3 x4 : Int} {o1 o5 : Option AV} (no1 : nL o1) (no5 : nL o5) (hL : Lay R K) (h : ((1536 ≤ x4 → Q (some (aI x2)) I L R K) ∧ (x4 < 1536 → (((0 ≤ x4 ∧ x4 < 1536) ∧ (0 ≤ I 22 4 ∧ I 22 4 ≤ 72) ∧ ∀ c, c < 24 → 0 ≤ I 26 c ∧ I 26 c ≤ 72)) ∧ (((lesN I x4) ≤ x3 → ((-2147483648 : Int) ≤ x4 + 1 ∧ x4 + 1 < (2147483648 : Int)) ∧ E sc 176 16 [some (aR (some 22)), o1, some (aI x2), some (aI x3), some (aI (x4 + 1)), some (aI (lesN I x4))] [] I L R K Q) ∧ (x3 < (lesN I x4) → ((-2147483648 : Int) ≤ x4 + 1 ∧ x4 + 1 < (2147483648 : Int)) ∧ E sc 176 16 [some (aR (some 22)), o1, some (aI x4), some (aI (lesN I x4)), some (aI (x4 + 1)), some (aI (lesN I x4))] [] I L R K Q))))) : E sc 176 16 [some (aR (some 22)), o1, some (aI x2), some (aI x3), some (aI x4), o5] [] I L R K Q :=
  e_iload mb_176 dX0_bestParting_16 rfl (e_sipush mb_176 dX0_bestParting_18 cv_sipush_1536 (e_icmp mb_176 dX0_bestParting_21 rfl (fun q1 => e_iload_n mb_176 dX0_bestParting_50 rfl (e_ireturn mb_176 dX0_bestParting_51 ri_176 (h.1 (cb_ge.1.mp q1)))) (fun q1 => e_aload_n mb_176 dX0_bestParting_24 rfl (e_iload mb_176 dX0_bestParting_25 rfl (e_callV mb_176 dX0_bestParting_27 mf_176 mf_177 cs_36 rfl rfl rfl rfl (lk_22 hL) rfl (v_177 hL (h.2 (cb_ge.2.mp q1)).1 (show E _ _ _ _ (_ :: _) _ _ _ _ _ from e_istore (l1 := [some (aR (some 22)), o1, some (aI x2), some (aI x3), some (aI x4), some (aI (lesN I x4))]) mb_176 dX0_bestParting_30 rfl (e_iload mb_176 dX0_bestParting_32 rfl (e_iload_n mb_176 dX0_bestParting_34 rfl (e_icmp mb_176 dX0_bestParting_35 rfl (fun q2 => e_iinc (l1 := [some (aR (some 22)), o1, some (aI x2), some (aI x3), some (aI (x4 + 1)), some (aI (lesN I x4))]) mb_176 dX0_bestParting_44 rfl ((h.2 (cb_ge.2.mp q1)).2.1 (cb_le.1.mp q2)).1 rfl (e_goto mb_176 dX0_bestParting_47 rfl (((h.2 (cb_ge.2.mp q1)).2.1 (cb_le.1.mp q2)).2))) (fun q2 => e_iload mb_176 dX0_bestParting_38 rfl (e_istore_n (l1 := [some (aR (some 22)), o1, some (aI x4), some (aI x3), some (aI x4), some (aI (lesN I x4))]) mb_176 dX0_bestParting_40 (aset_nl no1 rfl rfl rfl) (e_iload mb_176 dX0_bestParting_41 rfl (e_istore_n (l1 := [some (aR (some 22)), o1, some (aI x4), some (aI (lesN I x4)), some (aI x4), some (aI (lesN I x4))]) mb_176 dX0_bestParting_43 rfl (e_iinc (l1 := [some (aR (some 22)), o1, some (aI x4), some (aI (lesN I x4)), some (aI (x4 + 1)), some (aI (lesN I x4))]) mb_176 dX0_bestParting_44 rfl ((h.2 (cb_ge.2.mp q1)).2.2 (cb_le.2.mp q2)).1 rfl (e_goto mb_176 dX0_bestParting_47 rfl (((h.2 (cb_ge.2.mp q1)).2.2 (cb_le.2.mp q2)).2)))))))))))))))))
theorem v_176 {sc : Nat × (Nat → Int)} {I : IH} {L : LH} {R : RH} {K : KH} {Q : AQ} {a0 : Int} (hL : Lay R K) (hp : InvC I) (h : Q (some (aI (bsgF (fun s => lesS I a0 (s : Int)) 1536).1)) (hpH I a0 72) L R K) : E sc 176 0 [some (aR (some 22)), some (aI a0), none, none, none, none] [] I L R K Q := by
  have pre : ∀ x : Int, (0 ≤ x ∧ x < 1536) → (0 ≤ x ∧ x < 1536) ∧ (0 ≤ hpH I a0 72 22 4 ∧ hpH I a0 72 22 4 ≤ 72) ∧ ∀ c, c < 24 → 0 ≤ hpH I a0 72 26 c ∧ hpH I a0 72 26 c ≤ 72 := fun x hx => by
    refine ⟨hx, allL_b 72, fun c hc => ?_⟩
    have e : hpH I a0 72 26 c = holdC I a0 c 72 := by
      show (if 26 = 22 ∧ c = 4 then _ else if 26 = 26 ∧ c < 24 then holdC I a0 c 72 else I 26 c) = _
      rw [if_neg (by omega), if_pos ⟨rfl, hc⟩]
    rw [e]
    exact holdC_b 72
  have key : ∀ n : Nat, 1 ≤ n → n ≤ 1536 → ∀ (b m x : Int) (o1 o5 : Option AV), nL o1 → nL o5 → b = (bsgF (fun s => lesS I a0 (s : Int)) n).1 → m = (bsgF (fun s => lesS I a0 (s : Int)) n).2 → x = (n : Int) → E sc 176 16 [some (aR (some 22)), o1, some (aI b), some (aI m), some (aI x), o5] [] (hpH I a0 72) L R K Q := by
    intro n h1 hn
    refine loop_upf (C := fun n => 1 ≤ n → ∀ (b m x : Int) (o1 o5 : Option AV), nL o1 → nL o5 → b = (bsgF (fun s => lesS I a0 (s : Int)) n).1 → m = (bsgF (fun s => lesS I a0 (s : Int)) n).2 → x = (n : Int) → E sc 176 16 [some (aR (some 22)), o1, some (aI b), some (aI m), some (aI x), o5] [] (hpH I a0 72) L R K Q) 1536 ?_ ?_ n hn h1
    · intro n hn hc h1 b m x o1 o5 n1 n5 hb hm hx
      subst hx
      refine w_176_16 n1 n5 hL ⟨fun q1 => by omega, fun q1 => ⟨pre _ (by omega), ?_⟩⟩
      rw [lesN_eq (by omega)]
      refine ⟨fun q2 => ⟨by omega, hc (by omega) _ _ _ _ _ n1 nl_i ?_ ?_ (by omega)⟩, fun q2 => ⟨by omega, hc (by omega) _ _ _ _ _ n1 nl_i ?_ ?_ (by omega)⟩⟩
      · rw [bsgF, if_neg (by rw [← hm]; omega)]; exact hb
      · rw [bsgF, if_neg (by rw [← hm]; omega)]; exact hm
      · rw [bsgF, if_pos (by rw [← hm]; omega)]
      · rw [bsgF, if_pos (by rw [← hm]; omega)]
    · intro h1 b m x o1 o5 n1 n5 hb hm hx
      subst hx
      subst hb
      exact w_176_16 n1 n5 hL ⟨fun q1 => h, fun q1 => by omega⟩
  refine w_176_0 hL ⟨hp, pre _ (by omega), ?_⟩
  rw [lesN_eq (by omega)]
  have b0 := (lesS_b (I := I) (d := a0) (s := ((0 : Nat) : Int))).1
  have e : bsgF (fun s => lesS I a0 (s : Int)) 1 = (((0 : Nat) : Int), lesS I a0 ((0 : Nat) : Int)) := if_pos (show (-1 : Int) < lesS I a0 ((0 : Nat) : Int) by omega)
  exact key 1 (by omega) (by omega) _ _ _ _ _ nl_i nl_n (by rw [e]; rfl) (by rw [e]; rfl) rfl
theorem w_122_0 {sc : Nat × (Nat → Int)} {I : IH} {L : LH} {R : RH} {K : KH} {Q : AQ} {a0 a1 : Int} (hL : Lay R K) (h : ((0 ≤ I 77 18 ∧ I 77 18 ≤ 8)) ∧ ((0 ≤ a0 ∧ a0 ≤ I 77 18 - 1 → (((0 : Int) ≤ a1 ∧ a1 ≤ (1 : Int) → ((InvC I)) ∧ (∀ (r1 : Nat → Int), (∀ f : Nat, f < 72 → r1 f = b2i (leftB I a0 (f : Int) = true)) → (((allL I a0 72) ≠ 0 → E sc 122 40 [some (aR (some 77)), some (aI a0), some (aI a1), some (aI (allL I a0 72)), some (aI (-1)), some (aI (-1)), some (aI 0), none, none] [] (tabF I 123 r1) L R K Q) ∧ ((allL I a0 72) = 0 → Q (some (aI (-1))) (tabF I 123 r1) L R K)))) ∧ (¬((0 : Int) ≤ a1 ∧ a1 ≤ (1 : Int)) → Q (some (aI (-1))) I L R K))) ∧ (¬(0 ≤ a0 ∧ a0 ≤ I 77 18 - 1) → Q (some (aI (-1))) I L R K))) : E sc 122 0 [some (aR (some 77)), some (aI a0), some (aI a1), none, none, none, none, none, none] [] I L R K Q :=
  e_aload_n mb_122 dX12_parts_0 rfl (e_iload_n mb_122 dX12_parts_1 rfl (e_callV mb_122 dX12_parts_2 mf_122 mf_69 cs_49422 rfl rfl rfl rfl (lk_77 hL) rfl (v_69 hL h.1 (show E _ _ _ _ (_ :: _) _ _ _ _ _ from e_ifb_eq mb_122 dX12_parts_5 rfl ⟨fun q1 => e_iload_n mb_122 dX12_parts_8 rfl (e_iconst mb_122 dX12_parts_9 cv_iconst_0 (e_iconst mb_122 dX12_parts_10 cv_iconst_1 (e_callS mb_122 dX12_parts_11 mf_122 mf_66 cs_49329 rfl rfl rfl rfl (v_66 hL (show E _ _ _ _ (_ :: _) _ _ _ _ _ from e_ifb_ne mb_122 dX12_parts_14 rfl ⟨fun q2 => e_aload_n mb_122 dX12_parts_19 rfl (e_iload_n mb_122 dX12_parts_20 rfl (e_callV mb_122 dX12_parts_21 mf_122 mf_119 cs_49466 rfl rfl rfl rfl (lk_77 hL) rfl (v_119 hL ((h.2.1 q1).1 q2).1 (fun r1 hp2 => (show E _ _ _ _ [aI (allL I a0 72)] _ _ _ _ _ from e_istore_n (l1 := [some (aR (some 77)), some (aI a0), some (aI a1), some (aI (allL I a0 72)), none, none, none, none, none]) mb_122 dX12_parts_24 rfl (e_iload_n mb_122 dX12_parts_25 rfl (e_if mb_122 dX12_parts_26 rfl (fun q3 => e_iconst mb_122 dX12_parts_31 cv_iconst_m1 (e_istore (l1 := [some (aR (some 77)), some (aI a0), some (aI a1), some (aI (allL I a0 72)), some (aI (-1)), none, none, none, none]) mb_122 dX12_parts_32 rfl (e_iconst mb_122 dX12_parts_34 cv_iconst_m1 (e_istore (l1 := [some (aR (some 77)), some (aI a0), some (aI a1), some (aI (allL I a0 72)), some (aI (-1)), some (aI (-1)), none, none, none]) mb_122 dX12_parts_35 rfl (e_iconst mb_122 dX12_parts_37 cv_iconst_0 (e_istore (l1 := [some (aR (some 77)), some (aI a0), some (aI a1), some (aI (allL I a0 72)), some (aI (-1)), some (aI (-1)), some (aI 0), none, none]) mb_122 dX12_parts_38 rfl (((((h.2.1 q1).1 q2).2 r1 hp2).1 (cb_ne.1.mp q3))))))))) (fun q3 => e_iconst mb_122 dX12_parts_29 cv_iconst_m1 (e_ireturn mb_122 dX12_parts_30 ri_122 ((((h.2.1 q1).1 q2).2 r1 hp2).2 (cb_ne.2.mp q3))))))))))), fun q2 => e_iconst mb_122 dX12_parts_17 cv_iconst_m1 (e_ireturn mb_122 dX12_parts_18 ri_122 ((h.2.1 q1).2 q2))⟩))))), fun q1 => e_iconst mb_122 dX12_parts_17 cv_iconst_m1 (e_ireturn mb_122 dX12_parts_18 ri_122 (h.2.2 q1))⟩))))
theorem w_122_40 {sc : Nat × (Nat → Int)} {I : IH} {L : LH} {R : RH} {K : KH} {Q : AQ} {x2 x3 x4 x5 x6 : Int} {o1 o7 o8 : Option AV} (no1 : nL o1) (no7 : nL o7) (no8 : nL o8) (hL : Lay R K) (h : ((1536 ≤ x6 → ((x2 ≠ 0 → Q (some (aI x5)) I L R K) ∧ (x2 = 0 → Q (some (aI x4)) I L R K))) ∧ (x6 < 1536 → E sc 122 54 [some (aR (some 77)), o1, some (aI x2), some (aI x3), some (aI x4), some (aI x5), some (aI x6), some (aI 0), some (aI 0)] [] I L R K Q))) : E sc 122 40 [some (aR (some 77)), o1, some (aI x2), some (aI x3), some (aI x4), some (aI x5), some (aI x6), o7, o8] [] I L R K Q :=
  e_iload mb_122 dX12_parts_40 rfl (e_sipush mb_122 dX12_parts_42 cv_sipush_1536 (e_icmp mb_122 dX12_parts_45 rfl (fun q1 => e_iload_n mb_122 dX12_parts_138 rfl (e_if mb_122 dX12_parts_139 rfl (fun q2 => e_iload mb_122 dX12_parts_147 rfl (e_ireturn mb_122 dX12_parts_149 ri_122 ((h.1 (cb_ge.1.mp q1)).1 (cb_ne.1.mp q2)))) (fun q2 => e_iload mb_122 dX12_parts_142 rfl (e_goto mb_122 dX12_parts_144 rfl (e_ireturn mb_122 dX12_parts_149 ri_122 ((h.1 (cb_ge.1.mp q1)).2 (cb_ne.2.mp q2))))))) (fun q1 => e_iconst mb_122 dX12_parts_48 cv_iconst_0 (e_istore (l1 := [some (aR (some 77)), o1, some (aI x2), some (aI x3), some (aI x4), some (aI x5), some (aI x6), some (aI 0), o8]) mb_122 dX12_parts_49 rfl (e_iconst mb_122 dX12_parts_51 cv_iconst_0 (e_istore (l1 := [some (aR (some 77)), o1, some (aI x2), some (aI x3), some (aI x4), some (aI x5), some (aI x6), some (aI 0), some (aI 0)]) mb_122 dX12_parts_52 rfl ((h.2 (cb_ge.2.mp q1)))))))))
theorem w_122_54 {sc : Nat × (Nat → Int)} {I : IH} {L : LH} {R : RH} {K : KH} {Q : AQ} {x2 x3 x4 x5 x6 x7 x8 : Int} {o1 : Option AV} (no1 : nL o1) (hL : Lay R K) (h : ((72 ≤ x8 → ((-2147483648 : Int) ≤ x3 - x7 ∧ x3 - x7 < (2147483648 : Int)) ∧ (((x3 - x7) ≤ x7 → ((-2147483648 : Int) ≤ x3 - x7 ∧ x3 - x7 < (2147483648 : Int)) ∧ (((x3 - x7) ≤ x5 → ((-2147483648 : Int) ≤ x6 + 1 ∧ x6 + 1 < (2147483648 : Int)) ∧ E sc 122 40 [some (aR (some 77)), o1, some (aI x2), some (aI x3), some (aI x4), some (aI x5), some (aI (x6 + 1)), some (aI x7), some (aI (x3 - x7))] [] I L R K Q) ∧ (x5 < (x3 - x7) → ((-2147483648 : Int) ≤ x6 + 1 ∧ x6 + 1 < (2147483648 : Int)) ∧ E sc 122 40 [some (aR (some 77)), o1, some (aI x2), some (aI x3), some (aI x6), some (aI (x3 - x7)), some (aI (x6 + 1)), some (aI x7), some (aI (x3 - x7))] [] I L R K Q))) ∧ (x7 < (x3 - x7) → ((x7 ≤ x5 → ((-2147483648 : Int) ≤ x6 + 1 ∧ x6 + 1 < (2147483648 : Int)) ∧ E sc 122 40 [some (aR (some 77)), o1, some (aI x2), some (aI x3), some (aI x4), some (aI x5), some (aI (x6 + 1)), some (aI x7), some (aI x7)] [] I L R K Q) ∧ (x5 < x7 → ((-2147483648 : Int) ≤ x6 + 1 ∧ x6 + 1 < (2147483648 : Int)) ∧ E sc 122 40 [some (aR (some 77)), o1, some (aI x2), some (aI x3), some (aI x6), some (aI x7), some (aI (x6 + 1)), some (aI x7), some (aI x7)] [] I L R K Q))))) ∧ (x8 < 72 → (((0 : Int) ≤ x8 ∧ x8 < (72 : Int))) ∧ (((I 123 x8.toNat) = 0 → ((-2147483648 : Int) ≤ x7 + 0 ∧ x7 + 0 < (2147483648 : Int)) ∧ ((-2147483648 : Int) ≤ x8 + 1 ∧ x8 + 1 < (2147483648 : Int)) ∧ E sc 122 54 [some (aR (some 77)), o1, some (aI x2), some (aI x3), some (aI x4), some (aI x5), some (aI x6), some (aI (x7 + 0)), some (aI (x8 + 1))] [] I L R K Q) ∧ ((I 123 x8.toNat) ≠ 0 → (((0 ≤ x8 ∧ x8 < 72) ∧ 0 ≤ x6 ∧ x6 < 1536)) ∧ ((frmP x8 x6 → ((-2147483648 : Int) ≤ x7 + 1 ∧ x7 + 1 < (2147483648 : Int)) ∧ ((-2147483648 : Int) ≤ x8 + 1 ∧ x8 + 1 < (2147483648 : Int)) ∧ E sc 122 54 [some (aR (some 77)), o1, some (aI x2), some (aI x3), some (aI x4), some (aI x5), some (aI x6), some (aI (x7 + 1)), some (aI (x8 + 1))] [] I L R K Q) ∧ (¬(frmP x8 x6) → ((-2147483648 : Int) ≤ x7 + 0 ∧ x7 + 0 < (2147483648 : Int)) ∧ ((-2147483648 : Int) ≤ x8 + 1 ∧ x8 + 1 < (2147483648 : Int)) ∧ E sc 122 54 [some (aR (some 77)), o1, some (aI x2), some (aI x3), some (aI x4), some (aI x5), some (aI x6), some (aI (x7 + 0)), some (aI (x8 + 1))] [] I L R K Q))))))) : E sc 122 54 [some (aR (some 77)), o1, some (aI x2), some (aI x3), some (aI x4), some (aI x5), some (aI x6), some (aI x7), some (aI x8)] [] I L R K Q :=
  e_iload mb_122 dX12_parts_54 rfl (e_bipush mb_122 dX12_parts_56 cv_bipush_72 (e_icmp mb_122 dX12_parts_58 rfl (fun q1 => e_iload mb_122 dX12_parts_97 rfl (e_iload_n mb_122 dX12_parts_99 rfl (e_iload mb_122 dX12_parts_100 rfl (e_isub mb_122 dX12_parts_102 (h.1 (cb_ge.1.mp q1)).1 (e_icmp mb_122 dX12_parts_103 rfl (fun q2 => e_iload_n mb_122 dX12_parts_111 rfl (e_iload mb_122 dX12_parts_112 rfl (e_isub mb_122 dX12_parts_114 ((h.1 (cb_ge.1.mp q1)).2.1 (cb_ge.1.mp q2)).1 (e_istore (l1 := [some (aR (some 77)), o1, some (aI x2), some (aI x3), some (aI x4), some (aI x5), some (aI x6), some (aI x7), some (aI (x3 - x7))]) mb_122 dX12_parts_115 rfl (e_iload mb_122 dX12_parts_117 rfl (e_iload mb_122 dX12_parts_119 rfl (e_icmp mb_122 dX12_parts_121 rfl (fun q3 => e_iinc (l1 := [some (aR (some 77)), o1, some (aI x2), some (aI x3), some (aI x4), some (aI x5), some (aI (x6 + 1)), some (aI x7), some (aI (x3 - x7))]) mb_122 dX12_parts_132 rfl (((h.1 (cb_ge.1.mp q1)).2.1 (cb_ge.1.mp q2)).2.1 (cb_le.1.mp q3)).1 rfl (e_goto mb_122 dX12_parts_135 rfl ((((h.1 (cb_ge.1.mp q1)).2.1 (cb_ge.1.mp q2)).2.1 (cb_le.1.mp q3)).2))) (fun q3 => e_iload mb_122 dX12_parts_124 rfl (e_istore (l1 := [some (aR (some 77)), o1, some (aI x2), some (aI x3), some (aI x6), some (aI x5), some (aI x6), some (aI x7), some (aI (x3 - x7))]) mb_122 dX12_parts_126 rfl (e_iload mb_122 dX12_parts_128 rfl (e_istore (l1 := [some (aR (some 77)), o1, some (aI x2), some (aI x3), some (aI x6), some (aI (x3 - x7)), some (aI x6), some (aI x7), some (aI (x3 - x7))]) mb_122 dX12_parts_130 rfl (e_iinc (l1 := [some (aR (some 77)), o1, some (aI x2), some (aI x3), some (aI x6), some (aI (x3 - x7)), some (aI (x6 + 1)), some (aI x7), some (aI (x3 - x7))]) mb_122 dX12_parts_132 rfl (((h.1 (cb_ge.1.mp q1)).2.1 (cb_ge.1.mp q2)).2.2 (cb_le.2.mp q3)).1 rfl (e_goto mb_122 dX12_parts_135 rfl ((((h.1 (cb_ge.1.mp q1)).2.1 (cb_ge.1.mp q2)).2.2 (cb_le.2.mp q3)).2)))))))))))))) (fun q2 => e_iload mb_122 dX12_parts_106 rfl (e_goto mb_122 dX12_parts_108 rfl (e_istore (l1 := [some (aR (some 77)), o1, some (aI x2), some (aI x3), some (aI x4), some (aI x5), some (aI x6), some (aI x7), some (aI x7)]) mb_122 dX12_parts_115 rfl (e_iload mb_122 dX12_parts_117 rfl (e_iload mb_122 dX12_parts_119 rfl (e_icmp mb_122 dX12_parts_121 rfl (fun q4 => e_iinc (l1 := [some (aR (some 77)), o1, some (aI x2), some (aI x3), some (aI x4), some (aI x5), some (aI (x6 + 1)), some (aI x7), some (aI x7)]) mb_122 dX12_parts_132 rfl (((h.1 (cb_ge.1.mp q1)).2.2 (cb_ge.2.mp q2)).1 (cb_le.1.mp q4)).1 rfl (e_goto mb_122 dX12_parts_135 rfl ((((h.1 (cb_ge.1.mp q1)).2.2 (cb_ge.2.mp q2)).1 (cb_le.1.mp q4)).2))) (fun q4 => e_iload mb_122 dX12_parts_124 rfl (e_istore (l1 := [some (aR (some 77)), o1, some (aI x2), some (aI x3), some (aI x6), some (aI x5), some (aI x6), some (aI x7), some (aI x7)]) mb_122 dX12_parts_126 rfl (e_iload mb_122 dX12_parts_128 rfl (e_istore (l1 := [some (aR (some 77)), o1, some (aI x2), some (aI x3), some (aI x6), some (aI x7), some (aI x6), some (aI x7), some (aI x7)]) mb_122 dX12_parts_130 rfl (e_iinc (l1 := [some (aR (some 77)), o1, some (aI x2), some (aI x3), some (aI x6), some (aI x7), some (aI (x6 + 1)), some (aI x7), some (aI x7)]) mb_122 dX12_parts_132 rfl (((h.1 (cb_ge.1.mp q1)).2.2 (cb_ge.2.mp q2)).2 (cb_le.2.mp q4)).1 rfl (e_goto mb_122 dX12_parts_135 rfl ((((h.1 (cb_ge.1.mp q1)).2.2 (cb_ge.2.mp q2)).2 (cb_le.2.mp q4)).2)))))))))))))))))) (fun q1 => e_iload mb_122 dX12_parts_61 rfl (e_aload_n mb_122 dX12_parts_63 rfl (e_getr mb_122 dX12_parts_64 mf_122.1 fs_49305 fk_12_60 (lk_77 hL) (lr_77_60 hL) (e_iload mb_122 dX12_parts_67 rfl (e_bal mb_122 dX12_parts_69 (lk_123 hL) (ll_123 hL) (h.2 (cb_ge.2.mp q1)).1 rfl (e_if mb_122 dX12_parts_70 rfl (fun q5 => e_iconst mb_122 dX12_parts_87 cv_iconst_0 (e_iadd mb_122 dX12_parts_88 ((h.2 (cb_ge.2.mp q1)).2.1 (cb_eq.1.mp q5)).1 (e_istore (l1 := [some (aR (some 77)), o1, some (aI x2), some (aI x3), some (aI x4), some (aI x5), some (aI x6), some (aI (x7 + 0)), some (aI x8)]) mb_122 dX12_parts_89 rfl (e_iinc (l1 := [some (aR (some 77)), o1, some (aI x2), some (aI x3), some (aI x4), some (aI x5), some (aI x6), some (aI (x7 + 0)), some (aI (x8 + 1))]) mb_122 dX12_parts_91 rfl ((h.2 (cb_ge.2.mp q1)).2.1 (cb_eq.1.mp q5)).2.1 rfl (e_goto mb_122 dX12_parts_94 rfl (((h.2 (cb_ge.2.mp q1)).2.1 (cb_eq.1.mp q5)).2.2)))))) (fun q5 => e_iload mb_122 dX12_parts_73 rfl (e_iload mb_122 dX12_parts_75 rfl (e_callS mb_122 dX12_parts_77 mf_122 mf_117 cs_49460 rfl rfl rfl rfl (v_117 hL ((h.2 (cb_ge.2.mp q1)).2.2 (cb_eq.2.mp q5)).1 (show E _ _ _ _ (_ :: _) _ _ _ _ _ from e_ifb_eq mb_122 dX12_parts_80 rfl ⟨fun q6 => e_iconst mb_122 dX12_parts_83 cv_iconst_1 (e_goto mb_122 dX12_parts_84 rfl (e_iadd mb_122 dX12_parts_88 (((h.2 (cb_ge.2.mp q1)).2.2 (cb_eq.2.mp q5)).2.1 q6).1 (e_istore (l1 := [some (aR (some 77)), o1, some (aI x2), some (aI x3), some (aI x4), some (aI x5), some (aI x6), some (aI (x7 + 1)), some (aI x8)]) mb_122 dX12_parts_89 rfl (e_iinc (l1 := [some (aR (some 77)), o1, some (aI x2), some (aI x3), some (aI x4), some (aI x5), some (aI x6), some (aI (x7 + 1)), some (aI (x8 + 1))]) mb_122 dX12_parts_91 rfl (((h.2 (cb_ge.2.mp q1)).2.2 (cb_eq.2.mp q5)).2.1 q6).2.1 rfl (e_goto mb_122 dX12_parts_94 rfl ((((h.2 (cb_ge.2.mp q1)).2.2 (cb_eq.2.mp q5)).2.1 q6).2.2)))))), fun q6 => e_iconst mb_122 dX12_parts_87 cv_iconst_0 (e_iadd mb_122 dX12_parts_88 (((h.2 (cb_ge.2.mp q1)).2.2 (cb_eq.2.mp q5)).2.2 q6).1 (e_istore (l1 := [some (aR (some 77)), o1, some (aI x2), some (aI x3), some (aI x4), some (aI x5), some (aI x6), some (aI (x7 + 0)), some (aI x8)]) mb_122 dX12_parts_89 rfl (e_iinc (l1 := [some (aR (some 77)), o1, some (aI x2), some (aI x3), some (aI x4), some (aI x5), some (aI x6), some (aI (x7 + 0)), some (aI (x8 + 1))]) mb_122 dX12_parts_91 rfl (((h.2 (cb_ge.2.mp q1)).2.2 (cb_eq.2.mp q5)).2.2 q6).2.1 rfl (e_goto mb_122 dX12_parts_94 rfl ((((h.2 (cb_ge.2.mp q1)).2.2 (cb_eq.2.mp q5)).2.2 q6).2.2)))))⟩)))))))))))))
theorem l_122 {sc : Nat × (Nat → Int)} {I : IH} {L : LH} {R : RH} {K : KH} {Q : AQ} {d w : Int} {r : Nat → Int} {o1 o7 o8 : Option AV} (hL : Lay R K) (n1 : nL o1) (n7 : nL o7) (n8 : nL o8) (hr : ∀ f : Nat, f < 72 → r f = b2i (leftB I d (f : Int) = true)) (h : Q (some (aI (if w = 0 then (bsgF (fun s => lesS I d (s : Int)) 1536).1 else (bsgF (fun s => lesS I d (s : Int)) 1536).2))) (tabF I 123 r) L R K) : E sc 122 40 [some (aR (some 77)), o1, some (aI w), some (aI (allL I d 72)), some (aI (-1)), some (aI (-1)), some (aI 0), o7, o8] [] (tabF I 123 r) L R K Q := by
  have ba := allL_b (I := I) (d := d) 72
  have key : (fun n : Nat => ∀ (b m x : Int) (o7 o8 : Option AV), nL o7 → nL o8 → b = (bsgF (fun s => lesS I d (s : Int)) n).1 → m = (bsgF (fun s => lesS I d (s : Int)) n).2 → x = (n : Int) → E sc 122 40 [some (aR (some 77)), o1, some (aI w), some (aI (allL I d 72)), some (aI b), some (aI m), some (aI x), o7, o8] [] (tabF I 123 r) L R K Q) 0 := by
    refine loop_up (C := fun n : Nat => ∀ (b m x : Int) (o7 o8 : Option AV), nL o7 → nL o8 → b = (bsgF (fun s => lesS I d (s : Int)) n).1 → m = (bsgF (fun s => lesS I d (s : Int)) n).2 → x = (n : Int) → E sc 122 40 [some (aR (some 77)), o1, some (aI w), some (aI (allL I d 72)), some (aI b), some (aI m), some (aI x), o7, o8] [] (tabF I 123 r) L R K Q) 1536 ?_ ?_
    · intro n hn hc b m x o7 o8 n7 n8 hb hm hx
      subst hx
      have inner : (fun k : Nat => ∀ (y z : Int), y = cntS I d (n : Int) k → z = (k : Int) → E sc 122 54 [some (aR (some 77)), o1, some (aI w), some (aI (allL I d 72)), some (aI b), some (aI m), some (aI (n : Int)), some (aI y), some (aI z)] [] (tabF I 123 r) L R K Q) 0 := by
        refine loop_up (C := fun k : Nat => ∀ (y z : Int), y = cntS I d (n : Int) k → z = (k : Int) → E sc 122 54 [some (aR (some 77)), o1, some (aI w), some (aI (allL I d 72)), some (aI b), some (aI m), some (aI (n : Int)), some (aI y), some (aI z)] [] (tabF I 123 r) L R K Q) 72 ?_ ?_
        · intro k hk hc y z hy hz
          subst hz
          have er : (tabF I 123 r) 123 k = b2i (leftB I d (k : Int) = true) := hr k hk
          have bc := cntS_b (I := I) (d := d) (s := (n : Int)) k
          have bk := allL_b (I := I) (d := d) k
          have es : cntS I d (n : Int) (k + 1) = cntS I d (n : Int) k + (if leftB I d (k : Int) = true ∧ frmP (k : Int) (n : Int) then 1 else 0 : Int) := rfl
          refine w_122_54 n1 hL ?_
          simp only [Int.toNat_natCast]
          rw [er]
          by_cases q : leftB I d (k : Int) = true
          · rw [b2i_t q]
            exact ⟨fun q1 => by omega, fun q1 => ⟨by omega, fun q2 => by omega, fun q2 => ⟨⟨by omega, by omega⟩, fun q3 => ⟨by omega, by omega, hc _ _ (by rw [es, if_pos ⟨q, q3⟩, hy]) (by omega)⟩, fun q3 => ⟨by omega, by omega, hc _ _ (by rw [es, if_neg (fun g => q3 g.2), hy]) (by omega)⟩⟩⟩⟩
          · rw [b2i_f q]
            exact ⟨fun q1 => by omega, fun q1 => ⟨by omega, fun q2 => ⟨by omega, by omega, hc _ _ (by rw [es, if_neg (fun g => q g.1), hy]) (by omega)⟩, fun q2 => absurd rfl q2⟩⟩
        · intro y z hy hz
          subst hz
          have bc := cntS_b (I := I) (d := d) (s := (n : Int)) 72
          have el : lesS I d (n : Int) = min y (allL I d 72 - y) := by rw [hy]; rfl
          have up : ∀ v : Int, v = lesS I d (n : Int) → m < v → (n : Int) = (bsgF (fun s => lesS I d (s : Int)) (n + 1)).1 ∧ v = (bsgF (fun s => lesS I d (s : Int)) (n + 1)).2 := fun v hv hlt => by
            rw [bsgF, if_pos (by rw [← hm]; omega)]
            exact ⟨rfl, hv⟩
          have st : ∀ v : Int, v = lesS I d (n : Int) → v ≤ m → b = (bsgF (fun s => lesS I d (s : Int)) (n + 1)).1 ∧ m = (bsgF (fun s => lesS I d (s : Int)) (n + 1)).2 := fun v hv hle => by
            rw [bsgF, if_neg (by rw [← hm]; omega)]
            exact ⟨hb, hm⟩
          refine w_122_54 n1 hL ⟨fun q1 => ⟨by omega, fun q2 => ⟨by omega, fun q3 => ⟨by omega, ?_⟩, fun q3 => ⟨by omega, ?_⟩⟩, fun q2 => ⟨fun q3 => ⟨by omega, ?_⟩, fun q3 => ⟨by omega, ?_⟩⟩⟩, fun q1 => by omega⟩
          · have := st _ (show allL I d 72 - y = _ by omega) q3
            exact hc _ _ _ _ _ nl_i nl_i this.1 this.2 (by omega)
          · have := up _ (show allL I d 72 - y = _ by omega) q3
            exact hc _ _ _ _ _ nl_i nl_i this.1 this.2 (by omega)
          · have := st _ (show y = _ by omega) q3
            exact hc _ _ _ _ _ nl_i nl_i this.1 this.2 (by omega)
          · have := up _ (show y = _ by omega) q3
            exact hc _ _ _ _ _ nl_i nl_i this.1 this.2 (by omega)
      exact w_122_40 n1 n7 n8 hL ⟨fun q1 => by omega, fun q1 => inner _ _ rfl rfl⟩
    · intro b m x o7 o8 n7 n8 hb hm hx
      subst hx
      subst hb
      subst hm
      exact w_122_40 n1 n7 n8 hL ⟨fun q1 => ⟨fun q2 => by rw [if_neg q2] at h; exact h, fun q2 => by rw [if_pos q2] at h; exact h⟩, fun q1 => by omega⟩
  exact key _ _ _ _ _ n7 n8 rfl rfl rfl
theorem inv_cs {N : Nat} {I I1 : IH} {L : LH} {R : RH} {K : KH} (hI : Inv N I L R K) (h : ∀ a j, ¬ (a = 22 ∧ j = 4) → a ≠ 26 → a ≠ 123 → I1 a j = I a j) : Inv (N + 1) I1 L R K :=
  inv_up (inv_sc hI (fun a j q => h a j (fun e => q (by unfold Sc; omega)) (fun e => q (by unfold Sc; omega)) (fun e => q (by unfold Sc; omega))) (fun _ _ _ _ => rfl))
theorem cs_a {I : IH} {r : Nat → Int} (a j : Nat) (h1 : ¬ (a = 22 ∧ j = 4)) (h2 : a ≠ 26) (h3 : a ≠ 123) : tabF I 123 r a j = I a j := by
  unfold tabF
  rw [if_neg h3]
theorem cs_b {I : IH} {d : Int} {r : Nat → Int} (a j : Nat) (h1 : ¬ (a = 22 ∧ j = 4)) (h2 : a ≠ 26) (h3 : a ≠ 123) : tabF (hpH I d 72) 123 r a j = I a j := by
  unfold tabF hpH
  rw [if_neg h3, if_neg h1, if_neg (fun g => h2 g.1)]
set_option maxRecDepth 8000 in
theorem pr_22 {sc : Nat × (Nat → Int)} {I : IH} {L : LH} {R : RH} {K : KH} {Q : Option AV → AQ} {d : Int} (hL : Lay R K) (h : ((0 ≤ d ∧ d < I 14 8 → ((InvC I)) ∧ ((0 ≤ I 77 18 ∧ I 77 18 ≤ 8)) ∧ ((0 ≤ d ∧ d ≤ I 77 18 - 1 → ((InvC I)) ∧ (∀ (r1 : Nat → Int), (∀ f : Nat, f < 72 → r1 f = b2i (leftB I d (f : Int) = true)) → Q (some (aI (allL I d 72))) (some (aI (allL I d 72))) (tabF I 123 r1) L R K)) ∧ (¬(0 ≤ d ∧ d ≤ I 77 18 - 1) → Q (some (aI (allL I d 72))) (some (aI (-1))) I L R K))) ∧ (¬(0 ≤ d ∧ d < I 14 8) → ((0 ≤ I 77 18 ∧ I 77 18 ≤ 8)) ∧ ((0 ≤ d ∧ d ≤ I 77 18 - 1 → ((InvC I)) ∧ (∀ (r3 : Nat → Int), (∀ f : Nat, f < 72 → r3 f = b2i (leftB I d (f : Int) = true)) → Q (some (aI (-1))) (some (aI (allL I d 72))) (tabF I 123 r3) L R K)) ∧ (¬(0 ≤ d ∧ d ≤ I 77 18 - 1) → Q (some (aI (-1))) (some (aI (-1))) I L R K))))) : E sc 22 0 [some (aR (some 0)), some (aI d)] [] I L R K (fun rv I1 L1 R1 K1 => E sc 120 0 [some (aR (some 77)), some (aI d)] [] I1 L1 R1 K1 (Q rv)) :=
  e_aload_n mb_22 dX11_left_0 rfl (e_getr mb_22 dX11_left_1 mf_22.1 fs_45081 fk_11_2 (lk_0 hL) (lr_0_2 hL) (e_iload_n mb_22 dX11_left_4 rfl (e_callV mb_22 dX11_left_5 mf_22 mf_184 cs_45241 rfl rfl rfl rfl (lk_14 hL) rfl (v_184 hL (show E _ _ _ _ (_ :: _) _ _ _ _ _ from e_ifb_eq mb_22 dX11_left_8 rfl ⟨fun q1 => e_aload_n mb_22 dX11_left_11 rfl (e_getr mb_22 dX11_left_12 mf_22.1 fs_45088 fk_11_3 (lk_0 hL) (lr_0_3 hL) (e_iload_n mb_22 dX11_left_15 rfl (e_callV mb_22 dX11_left_16 mf_22 mf_174 cs_45310 rfl rfl rfl rfl (lk_22 hL) rfl (v_174y hL (h.1 q1).1 (show E _ _ _ _ (_ :: _) _ _ _ _ _ from e_goto mb_22 dX11_left_19 rfl (e_ireturn mb_22 dX11_left_23 ri_22 (show E _ _ _ _ [] _ _ _ _ _ from e_aload_n mb_120 dX12_left_0 rfl (e_iload_n mb_120 dX12_left_1 rfl (e_callV mb_120 dX12_left_2 mf_120 mf_69 cs_49422 rfl rfl rfl rfl (lk_77 hL) rfl (v_69 hL (h.1 q1).2.1 (show E _ _ _ _ (_ :: _) _ _ _ _ _ from e_ifb_eq mb_120 dX12_left_5 rfl ⟨fun q2 => e_aload_n mb_120 dX12_left_8 rfl (e_iload_n mb_120 dX12_left_9 rfl (e_callV mb_120 dX12_left_10 mf_120 mf_119 cs_49466 rfl rfl rfl rfl (lk_77 hL) rfl (v_119 hL ((h.1 q1).2.2.1 q2).1 (fun r1 hp2 => (show E _ _ _ _ [aI (allL I d 72)] _ _ _ _ _ from e_goto mb_120 dX12_left_13 rfl (e_ireturn mb_120 dX12_left_17 ri_120 (((h.1 q1).2.2.1 q2).2 r1 hp2))))))), fun q2 => e_iconst mb_120 dX12_left_16 cv_iconst_m1 (e_ireturn mb_120 dX12_left_17 ri_120 ((h.1 q1).2.2.2 q2))⟩))))))))))), fun q1 => e_iconst mb_22 dX11_left_22 cv_iconst_m1 (e_ireturn mb_22 dX11_left_23 ri_22 (show E _ _ _ _ [] _ _ _ _ _ from e_aload_n mb_120 dX12_left_0 rfl (e_iload_n mb_120 dX12_left_1 rfl (e_callV mb_120 dX12_left_2 mf_120 mf_69 cs_49422 rfl rfl rfl rfl (lk_77 hL) rfl (v_69 hL (h.2 q1).1 (show E _ _ _ _ (_ :: _) _ _ _ _ _ from e_ifb_eq mb_120 dX12_left_5 rfl ⟨fun q3 => e_aload_n mb_120 dX12_left_8 rfl (e_iload_n mb_120 dX12_left_9 rfl (e_callV mb_120 dX12_left_10 mf_120 mf_119 cs_49466 rfl rfl rfl rfl (lk_77 hL) rfl (v_119 hL ((h.2 q1).2.1 q3).1 (fun r3 hp4 => (show E _ _ _ _ [aI (allL I d 72)] _ _ _ _ _ from e_goto mb_120 dX12_left_13 rfl (e_ireturn mb_120 dX12_left_17 ri_120 (((h.2 q1).2.1 q3).2 r3 hp4))))))), fun q3 => e_iconst mb_120 dX12_left_16 cv_iconst_m1 (e_ireturn mb_120 dX12_left_17 ri_120 ((h.2 q1).2.2 q3))⟩))))))⟩)))))
theorem c_21 {N : Nat} {sc : Nat × (Nat → Int)} {I : IH} {L : LH} {R : RH} {K : KH} {d : Int} (hI : Inv N I L R K) : E sc 22 0 [some (aR (some 0)), some (aI d)] [] I L R K (fun rv I1 L1 R1 K1 => E sc 120 0 [some (aR (some 77)), some (aI d)] [] I1 L1 R1 K1 (Fin (N + 1) rv)) := by
  have hL := hI.1
  have hC := iC hI
  have hD := iD hI
  unfold InvD at hD
  have d1 := hD.1
  have d2 := hD.2.1
  have d3 := hD.2.2.1
  clear hD
  exact pr_22 hL (⟨fun q1 => (by first | (exfalso; omega) | exact ⟨(by first | omega | exact hC), ⟨(by first | omega | exact hC), ⟨fun q2 => (by first | (exfalso; omega) | exact ⟨(by first | omega | exact hC), fun r1 hp2 => (by first | exact fin_b (inv_cs hI cs_a) rfl | exact fin_b (inv_up hI) (by omega) | (exfalso; omega))⟩), fun q2 => (by first | exact fin_b (inv_cs hI cs_a) rfl | exact fin_b (inv_up hI) (by omega) | (exfalso; omega))⟩⟩⟩), fun q1 => (by first | (exfalso; omega) | exact ⟨(by first | omega | exact hC), ⟨fun q3 => (by first | (exfalso; omega) | exact ⟨(by first | omega | exact hC), fun r3 hp4 => (by first | exact fin_b (inv_cs hI cs_a) rfl | exact fin_b (inv_up hI) (by omega) | (exfalso; omega))⟩), fun q3 => (by first | exact fin_b (inv_cs hI cs_a) rfl | exact fin_b (inv_up hI) (by omega) | (exfalso; omega))⟩⟩)⟩)
theorem w_23_0 {sc : Nat × (Nat → Int)} {I : IH} {L : LH} {R : RH} {K : KH} {Q : AQ} {d i : Int} (hL : Lay R K) (h : ((0 ≤ d ∧ d < I 14 8 → ((InvC I)) ∧ Q (some (aI (ithF (fun k => leftB I d (k : Int)) 72 i 72 0))) I L R K) ∧ (¬(0 ≤ d ∧ d < I 14 8) → Q (some (aI (-1))) I L R K))) : E sc 23 0 [some (aR (some 0)), some (aI d), some (aI i)] [] I L R K Q :=
  e_aload_n mb_23 dX11_form_0 rfl (e_getr mb_23 dX11_form_1 mf_23.1 fs_45081 fk_11_2 (lk_0 hL) (lr_0_2 hL) (e_iload_n mb_23 dX11_form_4 rfl (e_callV mb_23 dX11_form_5 mf_23 mf_184 cs_45241 rfl rfl rfl rfl (lk_14 hL) rfl (v_184 hL (show E _ _ _ _ (_ :: _) _ _ _ _ _ from e_ifb_eq mb_23 dX11_form_8 rfl ⟨fun q1 => e_aload_n mb_23 dX11_form_11 rfl (e_getr mb_23 dX11_form_12 mf_23.1 fs_45088 fk_11_3 (lk_0 hL) (lr_0_3 hL) (e_iload_n mb_23 dX11_form_15 rfl (e_iload_n mb_23 dX11_form_16 rfl (e_callV mb_23 dX11_form_17 mf_23 mf_175 cs_45313 rfl rfl rfl rfl (lk_22 hL) rfl (v_175 hL (h.1 q1).1 (show E _ _ _ _ (_ :: _) _ _ _ _ _ from e_goto mb_23 dX11_form_20 rfl (e_ireturn mb_23 dX11_form_24 ri_23 (h.1 q1).2))))))), fun q1 => e_iconst mb_23 dX11_form_23 cv_iconst_m1 (e_ireturn mb_23 dX11_form_24 ri_23 (h.2 q1))⟩)))))
theorem c_22 {N : Nat} {sc : Nat × (Nat → Int)} {I : IH} {L : LH} {R : RH} {K : KH} {d i : Int} (hI : Inv N I L R K) : E sc 23 0 [some (aR (some 0)), some (aI d), some (aI i)] [] I L R K (fun rv I1 L1 R1 K1 => E sc 121 0 [some (aR (some 77)), some (aI d), some (aI i), none, none, none] [] I1 L1 R1 K1 (Fin (N + 1) rv)) := by
  have hL := hI.1
  have hC := iC hI
  have hD := iD hI
  unfold InvD at hD
  have d1 := hD.1
  have d2 := hD.2.1
  have d3 := hD.2.2.1
  clear hD
  have ref : ∀ x : Int, (¬ (0 ≤ d ∧ d < I 14 8) → x = -1) → (0 ≤ d ∧ d < I 14 8 → x = ithF (fun k => leftB I d (k : Int)) 72 i 72 0) → E sc 121 0 [some (aR (some 77)), some (aI d), some (aI i), none, none, none] [] I L R K (Fin (N + 1) (some (aI x))) := fun x h0 h1 =>
    w_121_0 hL (⟨(by first | omega | exact hC), ⟨fun q1 => ⟨fun q2 => ⟨(by first | omega | exact hC), fun r1 hp2 => (l_121 hL nl_i (by assumption) (by omega) (fin_b (inv_cs hI cs_a) (h1 (by omega))))⟩, fun q2 => (by first | exact fin_b (inv_up hI) (h0 (by omega)) | exact fin_b (inv_up hI) (by rw [h1 (by omega)]; exact ith_neg _ _ (by omega)) | (exfalso; omega))⟩, fun q1 => (by first | exact fin_b (inv_up hI) (h0 (by omega)) | exact fin_b (inv_up hI) (by rw [h1 (by omega)]; exact ith_neg _ _ (by omega)) | (exfalso; omega))⟩⟩)
  exact w_23_0 hL (⟨fun q1 => ⟨(by first | omega | exact hC), (ref _ (fun g => by first | rfl | (exfalso; omega)) (fun g => by first | rfl | (exfalso; omega)))⟩, fun q1 => (ref _ (fun g => by first | rfl | (exfalso; omega)) (fun g => by first | rfl | (exfalso; omega)))⟩)
theorem w_24_0 {sc : Nat × (Nat → Int)} {I : IH} {L : LH} {R : RH} {K : KH} {Q : AQ} {d w : Int} (hL : Lay R K) (h : ((0 ≤ d ∧ d < I 14 8 → (((0 : Int) ≤ w ∧ w ≤ (1 : Int) → ((InvC I)) ∧ (((allL I d 72) ≠ 0 → ((InvC I)) ∧ ((w ≠ 0 → (((0 ≤ ((bsgF (fun s => lesS I d (s : Int)) 1536).1) ∧ ((bsgF (fun s => lesS I d (s : Int)) 1536).1) < 1536) ∧ (0 ≤ (hpH I d 72) 22 4 ∧ (hpH I d 72) 22 4 ≤ 72) ∧ ∀ c, c < 24 → 0 ≤ (hpH I d 72) 26 c ∧ (hpH I d 72) 26 c ≤ 72)) ∧ Q (some (aI (lesN (hpH I d 72) ((bsgF (fun s => lesS I d (s : Int)) 1536).1)))) (hpH I d 72) L R K) ∧ (w = 0 → Q (some (aI ((bsgF (fun s => lesS I d (s : Int)) 1536).1))) (hpH I d 72) L R K))) ∧ ((allL I d 72) = 0 → Q (some (aI (-1))) I L R K))) ∧ (¬((0 : Int) ≤ w ∧ w ≤ (1 : Int)) → Q (some (aI (-1))) I L R K))) ∧ (¬(0 ≤ d ∧ d < I 14 8) → Q (some (aI (-1))) I L R K))) : E sc 24 0 [some (aR (some 0)), some (aI d), some (aI w), none] [] I L R K Q :=
  e_aload_n mb_24 dX11_parts_0 rfl (e_getr mb_24 dX11_parts_1 mf_24.1 fs_45081 fk_11_2 (lk_0 hL) (lr_0_2 hL) (e_iload_n mb_24 dX11_parts_4 rfl (e_callV mb_24 dX11_parts_5 mf_24 mf_184 cs_45241 rfl rfl rfl rfl (lk_14 hL) rfl (v_184 hL (show E _ _ _ _ (_ :: _) _ _ _ _ _ from e_ifb_eq mb_24 dX11_parts_8 rfl ⟨fun q1 => e_iload_n mb_24 dX11_parts_11 rfl (e_iconst mb_24 dX11_parts_12 cv_iconst_0 (e_iconst mb_24 dX11_parts_13 cv_iconst_1 (e_callS mb_24 dX11_parts_14 mf_24 mf_54 cs_45151 rfl rfl rfl rfl (v_54 hL (show E _ _ _ _ (_ :: _) _ _ _ _ _ from e_ifb_eq mb_24 dX11_parts_17 rfl ⟨fun q2 => e_aload_n mb_24 dX11_parts_20 rfl (e_getr mb_24 dX11_parts_21 mf_24.1 fs_45088 fk_11_3 (lk_0 hL) (lr_0_3 hL) (e_iload_n mb_24 dX11_parts_24 rfl (e_callV mb_24 dX11_parts_25 mf_24 mf_174 cs_45310 rfl rfl rfl rfl (lk_22 hL) rfl (v_174y hL ((h.1 q1).1 q2).1 (show E _ _ _ _ (_ :: _) _ _ _ _ _ from e_if mb_24 dX11_parts_28 rfl (fun q3 => e_aload_n mb_24 dX11_parts_33 rfl (e_getr mb_24 dX11_parts_34 mf_24.1 fs_45088 fk_11_3 (lk_0 hL) (lr_0_3 hL) (e_iload_n mb_24 dX11_parts_37 rfl (e_callV mb_24 dX11_parts_38 mf_24 mf_176 cs_45316 rfl rfl rfl rfl (lk_22 hL) rfl (v_176 hL (((h.1 q1).1 q2).2.1 (cb_ne.1.mp q3)).1 (show E _ _ _ _ [aI ((bsgF (fun s => lesS I d (s : Int)) 1536).1)] _ _ _ _ _ from e_istore_n (l1 := [some (aR (some 0)), some (aI d), some (aI w), some (aI ((bsgF (fun s => lesS I d (s : Int)) 1536).1))]) mb_24 dX11_parts_41 rfl (e_iload_n mb_24 dX11_parts_42 rfl (e_if mb_24 dX11_parts_43 rfl (fun q4 => e_aload_n mb_24 dX11_parts_50 rfl (e_getr mb_24 dX11_parts_51 mf_24.1 fs_45088 fk_11_3 (lk_0 hL) (lr_0_3 hL) (e_iload_n mb_24 dX11_parts_54 rfl (e_callV mb_24 dX11_parts_55 mf_24 mf_177 cs_45319 rfl rfl rfl rfl (lk_22 hL) rfl (v_177 hL ((((h.1 q1).1 q2).2.1 (cb_ne.1.mp q3)).2.1 (cb_ne.1.mp q4)).1 (show E _ _ _ _ (_ :: _) _ _ _ _ _ from e_ireturn mb_24 dX11_parts_58 ri_24 ((((h.1 q1).1 q2).2.1 (cb_ne.1.mp q3)).2.1 (cb_ne.1.mp q4)).2)))))) (fun q4 => e_iload_n mb_24 dX11_parts_46 rfl (e_goto mb_24 dX11_parts_47 rfl (e_ireturn mb_24 dX11_parts_58 ri_24 ((((h.1 q1).1 q2).2.1 (cb_ne.1.mp q3)).2.2 (cb_ne.2.mp q4))))))))))))) (fun q3 => e_iconst mb_24 dX11_parts_31 cv_iconst_m1 (e_ireturn mb_24 dX11_parts_32 ri_24 (((h.1 q1).1 q2).2.2 (cb_ne.2.mp q3))))))))), fun q2 => e_iconst mb_24 dX11_parts_31 cv_iconst_m1 (e_ireturn mb_24 dX11_parts_32 ri_24 ((h.1 q1).2 q2))⟩))))), fun q1 => e_iconst mb_24 dX11_parts_31 cv_iconst_m1 (e_ireturn mb_24 dX11_parts_32 ri_24 (h.2 q1))⟩)))))
theorem c_23 {N : Nat} {sc : Nat × (Nat → Int)} {I : IH} {L : LH} {R : RH} {K : KH} {d w : Int} (hI : Inv N I L R K) : E sc 24 0 [some (aR (some 0)), some (aI d), some (aI w), none] [] I L R K (fun rv I1 L1 R1 K1 => E sc 122 0 [some (aR (some 77)), some (aI d), some (aI w), none, none, none, none, none, none] [] I1 L1 R1 K1 (Fin (N + 1) rv)) := by
  have hL := hI.1
  have hC := iC hI
  have hD := iD hI
  unfold InvD at hD
  have d1 := hD.1
  have d2 := hD.2.1
  have d3 := hD.2.2.1
  clear hD
  have hb := bsgF_b (g := fun s => lesS I d (s : Int)) (fun s => (lesS_b (I := I) (d := d) (s := (s : Int))).1) 1536 (by omega)
  have ref0 : ∀ (J : IH) (x : Int), J = I → ((0 ≤ d ∧ d < I 14 8) → (0 ≤ w ∧ w ≤ 1) → allL I d 72 = 0) → x = -1 → E sc 122 0 [some (aR (some 77)), some (aI d), some (aI w), none, none, none, none, none, none] [] J L R K (Fin (N + 1) (some (aI x))) := fun J x e h0 h1 => by
    subst e
    exact w_122_0 hL (⟨(by first | omega | exact hC), ⟨fun q1 => ⟨fun q2 => ⟨(by first | omega | exact hC), fun r1 hp2 => ⟨fun q3 => (absurd (h0 (by omega) (by omega)) (by assumption)), fun q3 => (by first | exact fin_b (inv_cs hI cs_a) h1 | exact fin_b (inv_up hI) h1)⟩⟩, fun q2 => (by first | exact fin_b (inv_cs hI cs_a) h1 | exact fin_b (inv_up hI) h1)⟩, fun q1 => (by first | exact fin_b (inv_cs hI cs_a) h1 | exact fin_b (inv_up hI) h1)⟩⟩)
  have eL : (fun s : Nat => lesS (hpH I d 72) d (s : Int)) = (fun s : Nat => lesS I d (s : Int)) := funext fun s => rfl
  have ref1 : ∀ x : Int, 0 ≤ d ∧ d < I 14 8 → 0 ≤ w ∧ w ≤ 1 → allL I d 72 ≠ 0 → x = (if w = 0 then (bsgF (fun s => lesS I d (s : Int)) 1536).1 else (bsgF (fun s => lesS I d (s : Int)) 1536).2) → E sc 122 0 [some (aR (some 77)), some (aI d), some (aI w), none, none, none, none, none, none] [] (hpH I d 72) L R K (Fin (N + 1) (some (aI x))) := fun x g1 g2 g3 hx => by
    have hC2 : InvC (hpH I d 72) := hC
    have hD2 : 0 ≤ hpH I d 72 77 18 ∧ hpH I d 72 77 18 ≤ 8 := ⟨d2, d3⟩
    have e7718 : hpH I d 72 77 18 = I 77 18 := rfl
    have lp : ∀ r : Nat → Int, (∀ f : Nat, f < 72 → r f = b2i (leftB (hpH I d 72) d (f : Int) = true)) → E sc 122 40 [some (aR (some 77)), some (aI d), some (aI w), some (aI (allL (hpH I d 72) d 72)), some (aI (-1)), some (aI (-1)), some (aI 0), none, none] [] (tabF (hpH I d 72) 123 r) L R K (Fin (N + 1) (some (aI x))) := fun r hr => by
      refine l_122 (I := hpH I d 72) hL nl_i nl_n nl_n hr ?_
      rw [eL]
      exact fin_b (inv_cs hI cs_b) hx
    exact w_122_0 hL (⟨(by first | omega | exact hD2 | exact hC2), ⟨fun q1 => ⟨fun q2 => ⟨(by first | omega | exact hD2 | exact hC2), fun r1 hp2 => ⟨fun q3 => (lp _ hp2), fun q3 => (by first | (exfalso; omega) | contradiction)⟩⟩, fun q2 => (by first | (exfalso; omega) | contradiction)⟩, fun q1 => (by first | (exfalso; omega) | contradiction)⟩⟩)
  have preB : (0 ≤ hpH I d 72 22 4 ∧ hpH I d 72 22 4 ≤ 72) ∧ ∀ c, c < 24 → 0 ≤ hpH I d 72 26 c ∧ hpH I d 72 26 c ≤ 72 := by
    refine ⟨allL_b 72, fun c hc => ?_⟩
    have e : hpH I d 72 26 c = holdC I d c 72 := by
      show (if 26 = 22 ∧ c = 4 then _ else if 26 = 26 ∧ c < 24 then holdC I d c 72 else I 26 c) = _
      rw [if_neg (by omega), if_pos ⟨rfl, hc⟩]
    rw [e]
    exact holdC_b 72
  have hle : lesN (hpH I d 72) (bsgF (fun s => lesS I d (s : Int)) 1536).1 = (bsgF (fun s => lesS I d (s : Int)) 1536).2 := by
    rw [lesN_eq (by omega), hb.2.2]
    show _ = lesS I d (((bsgF (fun s => lesS I d (s : Int)) 1536).1.toNat : Nat) : Int)
    rw [show (((bsgF (fun s => lesS I d (s : Int)) 1536).1.toNat : Nat) : Int) = (bsgF (fun s => lesS I d (s : Int)) 1536).1 by omega]
  exact w_24_0 hL (⟨fun q1 => ⟨fun q2 => ⟨(by first | omega | exact hC | exact ⟨by omega, preB⟩), ⟨fun q3 => ⟨(by first | omega | exact hC | exact ⟨by omega, preB⟩), ⟨fun q4 => ⟨(by first | omega | exact hC | exact ⟨by omega, preB⟩), (ref1 _ (by omega) (by omega) q3 (by rw [if_neg q4]; exact hle))⟩, fun q4 => (ref1 _ (by omega) (by omega) q3 (by rw [if_pos q4]))⟩⟩, fun q3 => (ref0 _ _ rfl (fun _ _ => q3) rfl)⟩⟩, fun q2 => (ref0 _ _ rfl (fun g1 g2 => by exfalso; omega) rfl)⟩, fun q1 => (ref0 _ _ rfl (fun g1 g2 => by exfalso; omega) rfl)⟩)
