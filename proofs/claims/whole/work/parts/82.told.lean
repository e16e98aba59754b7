/-! the reference: shows, toldOf -/
theorem tb_div (x i : Nat) : x.testBit i = true ↔ x / 2 ^ i % 2 = 1 := by
  rw [Nat.testBit_eq_decide_div_mod_eq, decide_eq_true_iff]
theorem fld_eq {s : Int} (hs : 0 ≤ s ∧ s < 1536) : ∀ f : Nat, f < 6 → s / unF (f : Int) % szF (f : Int) = fldO s (f : Int) := by
  intro f hf
  have e : f = 0 ∨ f = 1 ∨ f = 2 ∨ f = 3 ∨ f = 4 ∨ f = 5 := by omega
  rcases e with rfl | rfl | rfl | rfl | rfl | rfl
  · show s / 384 % 4 = s / 384; omega
  · show s / 96 % 4 = s / 96 % 4; rfl
  · show s / 32 % 3 = s / 32 % 3; rfl
  · show s / 8 % 4 = s / 8 % 4; rfl
  · show s / 4 % 2 = s / 4 % 2; rfl
  · show s / 1 % 4 = s % 4; rw [Int.ediv_one]
theorem msk_and {a s : Int} {x : Nat} : mskF a s 6 &&& x ≠ 0 ↔ ∃ i : Nat, i < 6 ∧ x / 2 ^ i % 2 = 1 ∧ fldO a (i : Int) ≠ fldO s (i : Int) := by
  have hlt := msk_lt a s 6
  constructor
  · intro h
    apply Classical.byContradiction
    intro hn
    apply h
    apply Nat.eq_of_testBit_eq
    intro i
    rw [Nat.testBit_and, Nat.zero_testBit]
    cases h1 : (mskF a s 6).testBit i
    · rfl
    · cases h2 : x.testBit i
      · rfl
      · exfalso
        have hi : i < 6 := by
          apply Classical.byContradiction
          intro hi
          have : mskF a s 6 < 2 ^ i := Nat.lt_of_lt_of_le hlt (Nat.pow_le_pow_right (by decide) (by omega))
          rw [Nat.testBit_lt_two_pow this] at h1
          exact Bool.false_ne_true h1
        exact hn ⟨i, hi, (tb_div x i).mp h2, (msk_bit a s 6 i hi).mp h1⟩
  · rintro ⟨i, hi, h1, h2⟩ h
    have h3 := (msk_bit a s 6 i hi).mpr h2
    have h4 := (tb_div x i).mpr h1
    have h5 : (mskF a s 6 &&& x).testBit i = true := by rw [Nat.testBit_and, h3, h4]; rfl
    rw [h, Nat.zero_testBit] at h5
    exact Bool.false_ne_true h5
theorem w_109_0 {sc : Nat × (Nat → Int)} {I : IH} {L : LH} {R : RH} {K : KH} {Q : AQ} {a0 a1 : Int} (hL : Lay R K) (h : E sc 109 2 [some (aR (some 77)), some (aI a0), some (aI a1), some (aI 0), none, none] [] I L R K Q) : E sc 109 0 [some (aR (some 77)), some (aI a0), some (aI a1), none, none, none] [] I L R K Q :=
  e_iconst mb_109 dX12_shows_0 cv_iconst_0 (e_istore_n (l1 := [some (aR (some 77)), some (aI a0), some (aI a1), some (aI 0), none, none]) mb_109 dX12_shows_1 rfl h)
theorem w_109_2 {sc : Nat × (Nat → Int)} {I : IH} {L : LH} {R : RH} {K : KH} {Q : AQ} {x1 x2 x3 : Int} {o4 o5 : Option AV} (no4 : nL o4) (no5 : nL o5) (hL : Lay R K) (h : ((1536 ≤ x3 → Q (some (aI 1)) I L R K) ∧ (x3 < 1536 → (((0 : Int) ≤ x3 ∧ x3 < (1536 : Int))) ∧ (((I 122 x3.toNat) ≠ 0 → ((-2147483648 : Int) ≤ x3 + 1 ∧ x3 + 1 < (2147483648 : Int)) ∧ E sc 109 2 [some (aR (some 77)), some (aI x1), some (aI x2), some (aI (x3 + 1)), o4, o5] [] I L R K Q) ∧ ((I 122 x3.toNat) = 0 → E sc 109 24 [some (aR (some 77)), some (aI x1), some (aI x2), some (aI x3), some (aI 1), some (aI 0)] [] I L R K Q))))) : E sc 109 2 [some (aR (some 77)), some (aI x1), some (aI x2), some (aI x3), o4, o5] [] I L R K Q :=
  e_iload_n mb_109 dX12_shows_2 rfl (e_sipush mb_109 dX12_shows_3 cv_sipush_1536 (e_icmp mb_109 dX12_shows_6 rfl (fun q1 => e_iconst mb_109 dX12_shows_86 cv_iconst_1 (e_ireturn mb_109 dX12_shows_87 (ri_109 (Or.inr rfl)) (h.1 (cb_ge.1.mp q1)))) (fun q1 => e_aload_n mb_109 dX12_shows_9 rfl (e_getr mb_109 dX12_shows_10 mf_109.1 fs_49302 fk_12_59 (lk_77 hL) (lr_77_59 hL) (e_iload_n mb_109 dX12_shows_13 rfl (e_bal mb_109 dX12_shows_14 (lk_122 hL) (ll_122 hL) (h.2 (cb_ge.2.mp q1)).1 rfl (e_if mb_109 dX12_shows_15 rfl (fun q2 => e_iinc (l1 := [some (aR (some 77)), some (aI x1), some (aI x2), some (aI (x3 + 1)), o4, o5]) mb_109 dX12_shows_80 rfl ((h.2 (cb_ge.2.mp q1)).2.1 (cb_ne.1.mp q2)).1 rfl (e_goto mb_109 dX12_shows_83 rfl (((h.2 (cb_ge.2.mp q1)).2.1 (cb_ne.1.mp q2)).2))) (fun q2 => e_iconst mb_109 dX12_shows_18 cv_iconst_1 (e_istore (l1 := [some (aR (some 77)), some (aI x1), some (aI x2), some (aI x3), some (aI 1), o5]) mb_109 dX12_shows_19 rfl (e_iconst mb_109 dX12_shows_21 cv_iconst_0 (e_istore (l1 := [some (aR (some 77)), some (aI x1), some (aI x2), some (aI x3), some (aI 1), some (aI 0)]) mb_109 dX12_shows_22 rfl (((h.2 (cb_ge.2.mp q1)).2.2 (cb_ne.2.mp q2))))))))))))))
theorem w_109_24 {sc : Nat × (Nat → Int)} {I : IH} {L : LH} {R : RH} {K : KH} {Q : AQ} {x1 x2 x3 x4 x5 : Int} (hL : Lay R K) (h : ((6 ≤ x5 → ((x4 = 0 → ((-2147483648 : Int) ≤ x3 + 1 ∧ x3 + 1 < (2147483648 : Int)) ∧ E sc 109 2 [some (aR (some 77)), some (aI x1), some (aI x2), some (aI (x3 + 1)), some (aI x4), some (aI x5)] [] I L R K Q) ∧ (x4 ≠ 0 → Q (some (aI 0)) I L R K))) ∧ (x5 < 6 → ((x4 = 0 → ((x4 = 0 → ((-2147483648 : Int) ≤ x3 + 1 ∧ x3 + 1 < (2147483648 : Int)) ∧ E sc 109 2 [some (aR (some 77)), some (aI x1), some (aI x2), some (aI (x3 + 1)), some (aI x4), some (aI x5)] [] I L R K Q) ∧ (x4 ≠ 0 → Q (some (aI 0)) I L R K))) ∧ (x4 ≠ 0 → (((iand (ishr x1 x5) 1) = 0 → ((-2147483648 : Int) ≤ x5 + 1 ∧ x5 + 1 < (2147483648 : Int)) ∧ E sc 109 24 [some (aR (some 77)), some (aI x1), some (aI x2), some (aI x3), some (aI 1), some (aI (x5 + 1))] [] I L R K Q) ∧ ((iand (ishr x1 x5) 1) ≠ 0 → ((0 ≤ x3 ∧ x3 < 2147483648)) ∧ ((0 ≤ x2 ∧ x2 < 2147483648)) ∧ (((x3 / unF x5 % szF x5) ≠ (x2 / unF x5 % szF x5) → ((-2147483648 : Int) ≤ x5 + 1 ∧ x5 + 1 < (2147483648 : Int)) ∧ E sc 109 24 [some (aR (some 77)), some (aI x1), some (aI x2), some (aI x3), some (aI 0), some (aI (x5 + 1))] [] I L R K Q) ∧ ((x3 / unF x5 % szF x5) = (x2 / unF x5 % szF x5) → ((-2147483648 : Int) ≤ x5 + 1 ∧ x5 + 1 < (2147483648 : Int)) ∧ E sc 109 24 [some (aR (some 77)), some (aI x1), some (aI x2), some (aI x3), some (aI 1), some (aI (x5 + 1))] [] I L R K Q))))))))) : E sc 109 24 [some (aR (some 77)), some (aI x1), some (aI x2), some (aI x3), some (aI x4), some (aI x5)] [] I L R K Q :=
  e_iload mb_109 dX12_shows_24 rfl (e_bipush mb_109 dX12_shows_26 cv_bipush_6 (e_icmp mb_109 dX12_shows_28 rfl (fun q1 => e_iload mb_109 dX12_shows_73 rfl (e_if mb_109 dX12_shows_75 rfl (fun q2 => e_iinc (l1 := [some (aR (some 77)), some (aI x1), some (aI x2), some (aI (x3 + 1)), some (aI x4), some (aI x5)]) mb_109 dX12_shows_80 rfl ((h.1 (cb_ge.1.mp q1)).1 (cb_eq.1.mp q2)).1 rfl (e_goto mb_109 dX12_shows_83 rfl (((h.1 (cb_ge.1.mp q1)).1 (cb_eq.1.mp q2)).2))) (fun q2 => e_iconst mb_109 dX12_shows_78 cv_iconst_0 (e_ireturn mb_109 dX12_shows_79 (ri_109 (Or.inl rfl)) ((h.1 (cb_ge.1.mp q1)).2 (cb_eq.2.mp q2)))))) (fun q1 => e_iload mb_109 dX12_shows_31 rfl (e_if mb_109 dX12_shows_33 rfl (fun q3 => e_iload mb_109 dX12_shows_73 rfl (e_if mb_109 dX12_shows_75 rfl (fun q4 => e_iinc (l1 := [some (aR (some 77)), some (aI x1), some (aI x2), some (aI (x3 + 1)), some (aI x4), some (aI x5)]) mb_109 dX12_shows_80 rfl (((h.2 (cb_ge.2.mp q1)).1 (cb_eq.1.mp q3)).1 (cb_eq.1.mp q4)).1 rfl (e_goto mb_109 dX12_shows_83 rfl ((((h.2 (cb_ge.2.mp q1)).1 (cb_eq.1.mp q3)).1 (cb_eq.1.mp q4)).2))) (fun q4 => e_iconst mb_109 dX12_shows_78 cv_iconst_0 (e_ireturn mb_109 dX12_shows_79 (ri_109 (Or.inl rfl)) (((h.2 (cb_ge.2.mp q1)).1 (cb_eq.1.mp q3)).2 (cb_eq.2.mp q4)))))) (fun q3 => e_iload_n mb_109 dX12_shows_36 rfl (e_iload mb_109 dX12_shows_37 rfl (e_ishr mb_109 dX12_shows_39 (e_iconst mb_109 dX12_shows_40 cv_iconst_1 (e_iand mb_109 dX12_shows_41 (e_if mb_109 dX12_shows_42 rfl (fun q5 => e_iconst mb_109 dX12_shows_60 cv_iconst_1 (e_goto mb_109 dX12_shows_61 rfl (e_istore (l1 := [some (aR (some 77)), some (aI x1), some (aI x2), some (aI x3), some (aI 1), some (aI x5)]) mb_109 dX12_shows_65 rfl (e_iinc (l1 := [some (aR (some 77)), some (aI x1), some (aI x2), some (aI x3), some (aI 1), some (aI (x5 + 1))]) mb_109 dX12_shows_67 rfl (((h.2 (cb_ge.2.mp q1)).2 (cb_eq.2.mp q3)).1 (cb_eq.1.mp q5)).1 rfl (e_goto mb_109 dX12_shows_70 rfl ((((h.2 (cb_ge.2.mp q1)).2 (cb_eq.2.mp q3)).1 (cb_eq.1.mp q5)).2)))))) (fun q5 => e_iload_n mb_109 dX12_shows_45 rfl (e_iload mb_109 dX12_shows_46 rfl (e_callS mb_109 dX12_shows_48 mf_109 mf_73 cs_49384 rfl rfl rfl rfl (v_73 hL (((h.2 (cb_ge.2.mp q1)).2 (cb_eq.2.mp q3)).2 (cb_eq.2.mp q5)).1 (show E _ _ _ _ (_ :: _) _ _ _ _ _ from e_iload_n mb_109 dX12_shows_51 rfl (e_iload mb_109 dX12_shows_52 rfl (e_callS mb_109 dX12_shows_54 mf_109 mf_73 cs_49384 rfl rfl rfl rfl (v_73 hL (((h.2 (cb_ge.2.mp q1)).2 (cb_eq.2.mp q3)).2 (cb_eq.2.mp q5)).2.1 (show E _ _ _ _ (_ :: _) _ _ _ _ _ from e_icmp mb_109 dX12_shows_57 rfl (fun q6 => e_iconst mb_109 dX12_shows_64 cv_iconst_0 (e_istore (l1 := [some (aR (some 77)), some (aI x1), some (aI x2), some (aI x3), some (aI 0), some (aI x5)]) mb_109 dX12_shows_65 rfl (e_iinc (l1 := [some (aR (some 77)), some (aI x1), some (aI x2), some (aI x3), some (aI 0), some (aI (x5 + 1))]) mb_109 dX12_shows_67 rfl ((((h.2 (cb_ge.2.mp q1)).2 (cb_eq.2.mp q3)).2 (cb_eq.2.mp q5)).2.2.1 (cb_ne.1.mp q6)).1 rfl (e_goto mb_109 dX12_shows_70 rfl (((((h.2 (cb_ge.2.mp q1)).2 (cb_eq.2.mp q3)).2 (cb_eq.2.mp q5)).2.2.1 (cb_ne.1.mp q6)).2))))) (fun q6 => e_iconst mb_109 dX12_shows_60 cv_iconst_1 (e_goto mb_109 dX12_shows_61 rfl (e_istore (l1 := [some (aR (some 77)), some (aI x1), some (aI x2), some (aI x3), some (aI 1), some (aI x5)]) mb_109 dX12_shows_65 rfl (e_iinc (l1 := [some (aR (some 77)), some (aI x1), some (aI x2), some (aI x3), some (aI 1), some (aI (x5 + 1))]) mb_109 dX12_shows_67 rfl ((((h.2 (cb_ge.2.mp q1)).2 (cb_eq.2.mp q3)).2 (cb_eq.2.mp q5)).2.2.2 (cb_ne.2.mp q6)).1 rfl (e_goto mb_109 dX12_shows_70 rfl (((((h.2 (cb_ge.2.mp q1)).2 (cb_eq.2.mp q3)).2 (cb_eq.2.mp q5)).2.2.2 (cb_ne.2.mp q6)).2)))))))))))))))))))))))))
set_option maxHeartbeats 1000000 in
theorem v_109 {sc : Nat × (Nat → Int)} {I : IH} {L : LH} {R : RH} {K : KH} {Q : AQ} {a0 a1 : Int} (hL : Lay R K) (p0 : 0 ≤ a0 ∧ a0 < 64) (p1 : 0 ≤ a1 ∧ a1 < 1536) (h : Q (some (aI (b2i (okSh (fun s => I 122 s ≠ 0) a1 a0.toNat)))) I L R K) : E sc 109 0 [some (aR (some 77)), some (aI a0), some (aI a1), none, none, none] [] I L R K Q := by
  have key : ∀ z : Int, z = b2i (okSh (fun s => I 122 s ≠ 0) a1 a0.toNat) → Q (some (aI z)) I L R K := fun z e => e ▸ h
  have hbit : ∀ f : Nat, f < 6 → iand (ishr a0 (f : Int)) 1 = ((a0.toNat / 2 ^ f % 2 : Nat) : Int) := fun f hf => by
    have e : f = 0 ∨ f = 1 ∨ f = 2 ∨ f = 3 ∨ f = 4 ∨ f = 5 := by omega
    rw [ibit (by omega) (by omega)]
    rcases e with rfl | rfl | rfl | rfl | rfl | rfl <;> (simp only [Int.reducePow, Nat.reducePow]; omega)
  have k2 : (fun (m : Nat) => ∀ (o4 o5 : Option AV) (x3 : Int), nL o4 → nL o5 → (∀ s, s < m → (¬ I 122 s ≠ 0 → mskF a1 (s : Int) 6 &&& a0.toNat ≠ 0)) → x3 = (m : Int) → E sc 109 2 [some (aR (some 77)), some (aI a0), some (aI a1), some (aI x3), o4, o5] [] I L R K Q) 0 := by
    refine loop_up (C := fun (m : Nat) => ∀ (o4 o5 : Option AV) (x3 : Int), nL o4 → nL o5 → (∀ s, s < m → (¬ I 122 s ≠ 0 → mskF a1 (s : Int) 6 &&& a0.toNat ≠ 0)) → x3 = (m : Int) → E sc 109 2 [some (aR (some 77)), some (aI a0), some (aI a1), some (aI x3), o4, o5] [] I L R K Q) 1536 ?_ ?_
    · intro m hm hc o4 o5 x3 n4 n5 hok h3
      subst h3
      refine w_109_2 n4 n5 hL ?_
      rw [Int.toNat_natCast]
      refine ⟨fun q => by omega, fun q => ⟨by omega, fun q2 => ⟨by omega, hc _ _ _ n4 n5 (fun s hs hn => ?_) (by omega)⟩, fun q2 => ?_⟩⟩
      · by_cases e : s = m
        · rw [e] at hn; exact absurd q2 hn
        · exact hok s (by omega) hn
      · have nx : (mskF a1 (m : Int) 6 &&& a0.toNat ≠ 0) → ∀ (o4 o5 : Option AV) (x3 : Int), nL o4 → nL o5 → x3 = ((m + 1 : Nat) : Int) → E sc 109 2 [some (aR (some 77)), some (aI a0), some (aI a1), some (aI x3), o4, o5] [] I L R K Q := fun hne o4 o5 x3 n4 n5 h3 => hc _ _ _ n4 n5 (fun s hs hn => by
          by_cases e : s = m
          · rw [e]; exact hne
          · exact hok s (by omega) hn) h3
        have k3 : (fun (f : Nat) => ∀ (x5 : Int), (∀ i : Nat, i < f → (a0.toNat / 2 ^ i % 2 = 0 ∨ fldO a1 (i : Int) = fldO (m : Int) (i : Int))) → x5 = (f : Int) → E sc 109 24 [some (aR (some 77)), some (aI a0), some (aI a1), some (aI (m : Int)), some (aI 1), some (aI x5)] [] I L R K Q) 0 := by
          refine loop_up (C := fun (f : Nat) => ∀ (x5 : Int), (∀ i : Nat, i < f → (a0.toNat / 2 ^ i % 2 = 0 ∨ fldO a1 (i : Int) = fldO (m : Int) (i : Int))) → x5 = (f : Int) → E sc 109 24 [some (aR (some 77)), some (aI a0), some (aI a1), some (aI (m : Int)), some (aI 1), some (aI x5)] [] I L R K Q) 6 ?_ ?_
          · intro f hf hc2 x5 hg h5
            subst h5
            have g1 := fld_eq (s := (m : Int)) (by omega) f hf
            have g2 := fld_eq (s := a1) p1 f hf
            have hb := hbit f hf
            refine w_109_24 hL ?_
            rw [g1, g2, hb]
            refine ⟨fun q => by omega, fun q => ⟨fun q3 => by omega, fun _ => ⟨fun q4 => ⟨by omega, hc2 _ (fun i hi => ?_) (by omega)⟩, fun q4 => ⟨by omega, by omega, fun q5 => ⟨by omega, ?_⟩, fun q5 => ⟨by omega, hc2 _ (fun i hi => ?_) (by omega)⟩⟩⟩⟩⟩
            · by_cases e : i = f
              · rw [e]; exact Or.inl (by omega)
              · exact hg i (by omega)
            · have hne : mskF a1 (m : Int) 6 &&& a0.toNat ≠ 0 := msk_and.mpr ⟨f, hf, by omega, fun q6 => q5 q6.symm⟩
              refine w_109_24 hL ⟨fun q6 => ⟨fun _ => ⟨by omega, nx hne _ _ _ nl_i nl_i (by omega)⟩, fun q7 => absurd rfl q7⟩, fun q6 => ⟨fun _ => ⟨fun _ => ⟨by omega, nx hne _ _ _ nl_i nl_i (by omega)⟩, fun q7 => absurd rfl q7⟩, fun q7 => absurd rfl q7⟩⟩
            · by_cases e : i = f
              · rw [e]; exact Or.inr q5.symm
              · exact hg i (by omega)
          · intro x5 hg h5
            have hz : ¬ (mskF a1 (m : Int) 6 &&& a0.toNat ≠ 0) := fun hne => by
              obtain ⟨i, hi, h1, h2⟩ := msk_and.mp hne
              rcases hg i hi with q6 | q6
              · omega
              · exact h2 q6
            refine w_109_24 hL ⟨fun q6 => ⟨fun q7 => by omega, fun _ => key _ ?_⟩, fun q6 => by omega⟩
            rw [b2i, if_neg]
            intro hall
            exact hz (hall m hm (fun q7 => q7 q2))
        exact k3 _ (fun i hi => by omega) rfl
    · intro o4 o5 x3 n4 n5 hok h3
      exact w_109_2 n4 n5 hL ⟨fun q => key _ (by rw [b2i, if_pos hok]), fun q => by omega⟩
  exact w_109_0 hL (k2 _ _ _ nl_n nl_n (fun s hs => by omega) rfl)
theorem bst_spec {ok : Nat → Prop} [DecidablePred ok] (h63 : ok 63) : ∀ n, n ≤ 63 → ok (bstF ok n) ∧ (bstF ok n = 63 ∨ pcN 7 (bstF ok n) < 6) ∧ pcN 7 (bstF ok n) ≤ 6 ∧ (bstF ok n = 63 ∨ bstF ok n < n) ∧ ∀ x, x < n → ok x → pcN 7 (bstF ok n) < pcN 7 x ∨ (pcN 7 (bstF ok n) = pcN 7 x ∧ bstF ok n ≤ x) := by
  have p63 : pcN 7 63 = 6 := by decide
  intro n
  induction n with
  | zero => intro _; exact ⟨h63, Or.inl rfl, by show pcN 7 63 ≤ 6; omega, Or.inl rfl, fun x hx => by omega⟩
  | succ n ih =>
    intro hn
    obtain ⟨h1, h2, h3, h4, h5⟩ := ih (by omega)
    rw [bstF]
    by_cases hc : pcN 7 n < pcN 7 (bstF ok n) ∧ ok n
    · rw [if_pos hc]
      refine ⟨hc.2, Or.inr (by omega), by omega, Or.inr (by omega), fun x hx ho => ?_⟩
      by_cases e : x = n
      · rw [e]; exact Or.inr ⟨rfl, by omega⟩
      · rcases h5 x (by omega) ho with q | q
        · exact Or.inl (by omega)
        · exact Or.inl (by omega)
    · rw [if_neg hc]
      refine ⟨h1, h2, h3, by omega, fun x hx ho => ?_⟩
      by_cases e : x = n
      · rw [e] at ho ⊢
        have h6 : ¬ pcN 7 n < pcN 7 (bstF ok n) := fun q => hc ⟨q, ho⟩
        rcases h4 with q | q
        · have hp : ∀ y, y < 63 → pcN 7 y < 6 := by decide
          have := hp n (by omega)
          rw [q] at h6
          omega
        · omega
      · exact h5 x (by omega) ho
theorem bst_min {ok : Nat → Prop} [DecidablePred ok] (h63 : ok 63) : ok (bstF ok 63) ∧ pcN 7 (bstF ok 63) ≤ 6 ∧ ∀ x, x < 64 → ok x → pcN 7 (bstF ok 63) < pcN 7 x ∨ (pcN 7 (bstF ok 63) = pcN 7 x ∧ bstF ok 63 ≤ x) := by
  have p63 : pcN 7 63 = 6 := by decide
  obtain ⟨h1, h2, h3, h4, h5⟩ := bst_spec h63 63 Nat.le.refl
  refine ⟨h1, h3, fun x hx ho => ?_⟩
  by_cases e : x = 63
  · rw [e]
    rcases h2 with q | q
    · rw [q]; exact Or.inr ⟨rfl, Nat.le.refl⟩
    · exact Or.inl (by omega)
  · exact h5 x (by omega) ho
theorem fld_inj {a s : Int} (ha : 0 ≤ a ∧ a < 1536) (hs : 0 ≤ s ∧ s < 1536) (h : ∀ i : Nat, i < 6 → fldO a (i : Int) = fldO s (i : Int)) : a = s := by
  have h0 : a / 384 = s / 384 := h 0 (by omega)
  have h1 : a / 96 % 4 = s / 96 % 4 := h 1 (by omega)
  have h2 : a / 32 % 3 = s / 32 % 3 := h 2 (by omega)
  have h3 : a / 8 % 4 = s / 8 % 4 := h 3 (by omega)
  have h4 : a / 4 % 2 = s / 4 % 2 := h 4 (by omega)
  have h5 : a % 4 = s % 4 := h 5 (by omega)
  omega
theorem ok63 {p : Nat → Prop} [DecidablePred p] {a : Int} (ha : 0 ≤ a ∧ a < 1536) (hp : p a.toNat) : okSh p a 63 := by
  intro s hs hn
  rw [msk_and]
  apply Classical.byContradiction
  intro hx
  have e : a = (s : Int) := fld_inj ha (by omega) (fun i hi => by
    apply Classical.byContradiction
    intro hne
    refine hx ⟨i, hi, ?_, hne⟩
    have hd : ∀ i, i < 6 → 63 / 2 ^ i % 2 = 1 := by decide
    exact hd i hi)
  rw [show s = a.toNat by omega] at hn
  exact hn hp
theorem many_dec : ∀ x : Nat, x < 64 → sumTo (fun (j : Nat) => (iand (ishr (x : Int) (j : Int)) 1 : Int)) ((10 : Int)).toNat = ((pcN 7 x : Nat) : Int) := by decide +kernel
theorem many_b : ∀ x : Nat, x < 64 → ∀ j : Nat, j < 10 → 0 ≤ iand (ishr (x : Int) (j : Int)) 1 ∧ iand (ishr (x : Int) (j : Int)) 1 ≤ 1 := by decide +kernel
theorem w_111_0 {sc : Nat × (Nat → Int)} {I : IH} {L : LH} {R : RH} {K : KH} {Q : AQ} {a0 : Int} (hL : Lay R K) (h : E sc 111 9 [some (aR (some 77)), some (aI a0), some (aI 0), some (aI (-1)), some (aI 1535), none] [] I L R K Q) : E sc 111 0 [some (aR (some 77)), some (aI a0), none, none, none, none] [] I L R K Q :=
  e_iconst mb_111 dX12_toldOf_0 cv_iconst_0 (e_istore_n (l1 := [some (aR (some 77)), some (aI a0), some (aI 0), none, none, none]) mb_111 dX12_toldOf_1 rfl (e_iconst mb_111 dX12_toldOf_2 cv_iconst_m1 (e_istore_n (l1 := [some (aR (some 77)), some (aI a0), some (aI 0), some (aI (-1)), none, none]) mb_111 dX12_toldOf_3 rfl (e_sipush mb_111 dX12_toldOf_4 cv_sipush_1535 (e_istore (l1 := [some (aR (some 77)), some (aI a0), some (aI 0), some (aI (-1)), some (aI 1535), none]) mb_111 dX12_toldOf_7 rfl h)))))
theorem w_111_9 {sc : Nat × (Nat → Int)} {I : IH} {L : LH} {R : RH} {K : KH} {Q : AQ} {x1 x2 x3 x4 : Int} {o5 : Option AV} (no5 : nL o5) (hL : Lay R K) (h : ((x4 < 0 → ((x1 < 2 → ((x1 ≠ 0 → Q (some (aI x3)) I L R K) ∧ (x1 = 0 → Q (some (aI x2)) I L R K))) ∧ (2 ≤ x1 → ((x3 ≠ (-1) → E sc 111 59 [some (aR (some 77)), some (aI x1), some (aI x2), some (aI x3), some (aI 0), o5] [] I L R K Q) ∧ (x3 = (-1) → ((x1 ≠ 0 → Q (some (aI x3)) I L R K) ∧ (x1 = 0 → Q (some (aI x2)) I L R K))))))) ∧ (0 ≤ x4 → (((0 : Int) ≤ x4 ∧ x4 < (1536 : Int))) ∧ (((I 122 x4.toNat) = 0 → ((-2147483648 : Int) ≤ x4 + (-1) ∧ x4 + (-1) < (2147483648 : Int)) ∧ E sc 111 9 [some (aR (some 77)), some (aI x1), some (aI x2), some (aI x3), some (aI (x4 + (-1))), o5] [] I L R K Q) ∧ ((I 122 x4.toNat) ≠ 0 → ((-2147483648 : Int) ≤ x2 + 1 ∧ x2 + 1 < (2147483648 : Int)) ∧ ((-2147483648 : Int) ≤ x4 + (-1) ∧ x4 + (-1) < (2147483648 : Int)) ∧ E sc 111 9 [some (aR (some 77)), some (aI x1), some (aI (x2 + 1)), some (aI x4), some (aI (x4 + (-1))), o5] [] I L R K Q))))) : E sc 111 9 [some (aR (some 77)), some (aI x1), some (aI x2), some (aI x3), some (aI x4), o5] [] I L R K Q :=
  e_iload mb_111 dX12_toldOf_9 rfl (e_if mb_111 dX12_toldOf_11 rfl (fun q1 => e_iload_n mb_111 dX12_toldOf_36 rfl (e_iconst mb_111 dX12_toldOf_37 cv_iconst_2 (e_icmp mb_111 dX12_toldOf_38 rfl (fun q2 => e_iload_n mb_111 dX12_toldOf_46 rfl (e_if mb_111 dX12_toldOf_47 rfl (fun q3 => e_iload_n mb_111 dX12_toldOf_54 rfl (e_ireturn mb_111 dX12_toldOf_55 ri_111 (((h.1 (cb_lt.1.mp q1)).1 (cb_lt.1.mp q2)).1 (cb_ne.1.mp q3)))) (fun q3 => e_iload_n mb_111 dX12_toldOf_50 rfl (e_goto mb_111 dX12_toldOf_51 rfl (e_ireturn mb_111 dX12_toldOf_55 ri_111 (((h.1 (cb_lt.1.mp q1)).1 (cb_lt.1.mp q2)).2 (cb_ne.2.mp q3))))))) (fun q2 => e_iload_n mb_111 dX12_toldOf_41 rfl (e_iconst mb_111 dX12_toldOf_42 cv_iconst_m1 (e_icmp mb_111 dX12_toldOf_43 rfl (fun q4 => e_iconst mb_111 dX12_toldOf_56 cv_iconst_0 (e_istore (l1 := [some (aR (some 77)), some (aI x1), some (aI x2), some (aI x3), some (aI 0), o5]) mb_111 dX12_toldOf_57 rfl ((((h.1 (cb_lt.1.mp q1)).2 (cb_lt.2.mp q2)).1 (cb_ne.1.mp q4))))) (fun q4 => e_iload_n mb_111 dX12_toldOf_46 rfl (e_if mb_111 dX12_toldOf_47 rfl (fun q5 => e_iload_n mb_111 dX12_toldOf_54 rfl (e_ireturn mb_111 dX12_toldOf_55 ri_111 ((((h.1 (cb_lt.1.mp q1)).2 (cb_lt.2.mp q2)).2 (cb_ne.2.mp q4)).1 (cb_ne.1.mp q5)))) (fun q5 => e_iload_n mb_111 dX12_toldOf_50 rfl (e_goto mb_111 dX12_toldOf_51 rfl (e_ireturn mb_111 dX12_toldOf_55 ri_111 ((((h.1 (cb_lt.1.mp q1)).2 (cb_lt.2.mp q2)).2 (cb_ne.2.mp q4)).2 (cb_ne.2.mp q5))))))))))))) (fun q1 => e_aload_n mb_111 dX12_toldOf_14 rfl (e_getr mb_111 dX12_toldOf_15 mf_111.1 fs_49302 fk_12_59 (lk_77 hL) (lr_77_59 hL) (e_iload mb_111 dX12_toldOf_18 rfl (e_bal mb_111 dX12_toldOf_20 (lk_122 hL) (ll_122 hL) (h.2 (cb_lt.2.mp q1)).1 rfl (e_if mb_111 dX12_toldOf_21 rfl (fun q6 => e_iinc (l1 := [some (aR (some 77)), some (aI x1), some (aI x2), some (aI x3), some (aI (x4 + (-1))), o5]) mb_111 dX12_toldOf_30 rfl ((h.2 (cb_lt.2.mp q1)).2.1 (cb_eq.1.mp q6)).1 rfl (e_goto mb_111 dX12_toldOf_33 rfl (((h.2 (cb_lt.2.mp q1)).2.1 (cb_eq.1.mp q6)).2))) (fun q6 => e_iinc (l1 := [some (aR (some 77)), some (aI x1), some (aI (x2 + 1)), some (aI x3), some (aI x4), o5]) mb_111 dX12_toldOf_24 rfl ((h.2 (cb_lt.2.mp q1)).2.2 (cb_eq.2.mp q6)).1 rfl (e_iload mb_111 dX12_toldOf_27 rfl (e_istore_n (l1 := [some (aR (some 77)), some (aI x1), some (aI (x2 + 1)), some (aI x4), some (aI x4), o5]) mb_111 dX12_toldOf_29 rfl (e_iinc (l1 := [some (aR (some 77)), some (aI x1), some (aI (x2 + 1)), some (aI x4), some (aI (x4 + (-1))), o5]) mb_111 dX12_toldOf_30 rfl ((h.2 (cb_lt.2.mp q1)).2.2 (cb_eq.2.mp q6)).2.1 rfl (e_goto mb_111 dX12_toldOf_33 rfl (((h.2 (cb_lt.2.mp q1)).2.2 (cb_eq.2.mp q6)).2.2))))))))))))
theorem w_111_59 {sc : Nat × (Nat → Int)} {I : IH} {L : LH} {R : RH} {K : KH} {Q : AQ} {x3 x4 : Int} {o1 o2 o5 : Option AV} (no1 : nL o1) (no2 : nL o2) (no5 : nL o5) (hL : Lay R K) (h : ((6 < x4 → Q (some (aI (-1))) I L R K) ∧ (x4 ≤ 6 → E sc 111 69 [some (aR (some 77)), o1, o2, some (aI x3), some (aI x4), some (aI 0)] [] I L R K Q))) : E sc 111 59 [some (aR (some 77)), o1, o2, some (aI x3), some (aI x4), o5] [] I L R K Q :=
  e_iload mb_111 dX12_toldOf_59 rfl (e_bipush mb_111 dX12_toldOf_61 cv_bipush_6 (e_icmp mb_111 dX12_toldOf_63 rfl (fun q1 => e_iconst mb_111 dX12_toldOf_111 cv_iconst_m1 (e_ireturn mb_111 dX12_toldOf_112 ri_111 (h.1 (cb_gt.1.mp q1)))) (fun q1 => e_iconst mb_111 dX12_toldOf_66 cv_iconst_0 (e_istore (l1 := [some (aR (some 77)), o1, o2, some (aI x3), some (aI x4), some (aI 0)]) mb_111 dX12_toldOf_67 rfl ((h.2 (cb_gt.2.mp q1)))))))
theorem w_111_69 {sc : Nat × (Nat → Int)} {I : IH} {L : LH} {R : RH} {K : KH} {Q : AQ} {x3 x4 x5 : Int} {o1 o2 : Option AV} (no1 : nL o1) (no2 : nL o2) (hL : Lay R K) (h : ((64 ≤ x5 → ((-2147483648 : Int) ≤ x4 + 1 ∧ x4 + 1 < (2147483648 : Int)) ∧ E sc 111 59 [some (aR (some 77)), o1, o2, some (aI x3), some (aI (x4 + 1)), some (aI x5)] [] I L R K Q) ∧ (x5 < 64 → ((0 ≤ (10 : Int) ∧ (10 : Int) ≤ 10) ∧ (∀ j : Nat, j < 10 → 0 ≤ iand (ishr x5 (j : Int)) 1 ∧ iand (ishr x5 (j : Int)) 1 ≤ 1)) ∧ (((sumTo (fun (j : Nat) => (iand (ishr x5 (j : Int)) 1 : Int)) ((10 : Int)).toNat) ≠ x4 → ((-2147483648 : Int) ≤ x5 + 1 ∧ x5 + 1 < (2147483648 : Int)) ∧ E sc 111 69 [some (aR (some 77)), o1, o2, some (aI x3), some (aI x4), some (aI (x5 + 1))] [] I L R K Q) ∧ ((sumTo (fun (j : Nat) => (iand (ishr x5 (j : Int)) 1 : Int)) ((10 : Int)).toNat) = x4 → ((0 ≤ x5 ∧ x5 < 64) ∧ (0 ≤ x3 ∧ x3 < 1536)) ∧ ((okSh (fun s => I 122 s ≠ 0) x3 x5.toNat → Q (some (aI x5)) I L R K) ∧ (¬(okSh (fun s => I 122 s ≠ 0) x3 x5.toNat) → ((-2147483648 : Int) ≤ x5 + 1 ∧ x5 + 1 < (2147483648 : Int)) ∧ E sc 111 69 [some (aR (some 77)), o1, o2, some (aI x3), some (aI x4), some (aI (x5 + 1))] [] I L R K Q))))))) : E sc 111 69 [some (aR (some 77)), o1, o2, some (aI x3), some (aI x4), some (aI x5)] [] I L R K Q :=
  e_iload mb_111 dX12_toldOf_69 rfl (e_bipush mb_111 dX12_toldOf_71 cv_bipush_64 (e_icmp mb_111 dX12_toldOf_73 rfl (fun q1 => e_iinc (l1 := [some (aR (some 77)), o1, o2, some (aI x3), some (aI (x4 + 1)), some (aI x5)]) mb_111 dX12_toldOf_105 rfl (h.1 (cb_ge.1.mp q1)).1 rfl (e_goto mb_111 dX12_toldOf_108 rfl ((h.1 (cb_ge.1.mp q1)).2))) (fun q1 => e_iload mb_111 dX12_toldOf_76 rfl (e_callS mb_111 dX12_toldOf_78 mf_111 mf_110 cs_49442 rfl rfl rfl rfl (v_110 hL (h.2 (cb_ge.2.mp q1)).1.1 (h.2 (cb_ge.2.mp q1)).1.2 (show E _ _ _ _ (_ :: _) _ _ _ _ _ from e_iload mb_111 dX12_toldOf_81 rfl (e_icmp mb_111 dX12_toldOf_83 rfl (fun q2 => e_iinc (l1 := [some (aR (some 77)), o1, o2, some (aI x3), some (aI x4), some (aI (x5 + 1))]) mb_111 dX12_toldOf_99 rfl ((h.2 (cb_ge.2.mp q1)).2.1 (cb_ne.1.mp q2)).1 rfl (e_goto mb_111 dX12_toldOf_102 rfl (((h.2 (cb_ge.2.mp q1)).2.1 (cb_ne.1.mp q2)).2))) (fun q2 => e_aload_n mb_111 dX12_toldOf_86 rfl (e_iload mb_111 dX12_toldOf_87 rfl (e_iload_n mb_111 dX12_toldOf_89 rfl (e_callV mb_111 dX12_toldOf_90 mf_111 mf_109 cs_49445 rfl rfl rfl rfl (lk_77 hL) rfl (v_109 hL ((h.2 (cb_ge.2.mp q1)).2.2 (cb_ne.2.mp q2)).1.1 ((h.2 (cb_ge.2.mp q1)).2.2 (cb_ne.2.mp q2)).1.2 (show E _ _ _ _ (_ :: _) _ _ _ _ _ from e_ifb_eq mb_111 dX12_toldOf_93 rfl ⟨fun q3 => e_iload mb_111 dX12_toldOf_96 rfl (e_ireturn mb_111 dX12_toldOf_98 ri_111 (((h.2 (cb_ge.2.mp q1)).2.2 (cb_ne.2.mp q2)).2.1 q3)), fun q3 => e_iinc (l1 := [some (aR (some 77)), o1, o2, some (aI x3), some (aI x4), some (aI (x5 + 1))]) mb_111 dX12_toldOf_99 rfl (((h.2 (cb_ge.2.mp q1)).2.2 (cb_ne.2.mp q2)).2.2 q3).1 rfl (e_goto mb_111 dX12_toldOf_102 rfl ((((h.2 (cb_ge.2.mp q1)).2.2 (cb_ne.2.mp q2)).2.2 q3).2))⟩)))))))))))))
set_option maxHeartbeats 1000000 in
theorem v_111 {sc : Nat × (Nat → Int)} {I : IH} {L : LH} {R : RH} {K : KH} {Q : AQ} {a0 : Int} (hL : Lay R K) (p0 : 0 ≤ a0 ∧ a0 ≤ 2) (h : Q (some (aI (tellV (fun s => I 122 s ≠ 0) a0))) I L R K) : E sc 111 0 [some (aR (some 77)), some (aI a0), none, none, none, none] [] I L R K Q := by
  have key : ∀ z : Int, z = tellV (fun s => I 122 s ≠ 0) a0 → Q (some (aI z)) I L R K := fun z e => e ▸ h
  obtain ⟨a, ha⟩ : ∃ a, a = fstF (fun s => I 122 s ≠ 0) 1536 := ⟨_, rfl⟩
  have har := fst_rng (p := fun s => I 122 s ≠ 0) 1536
  rw [← ha] at har
  have part2 : a ≠ -1 → a0 = 2 → ∀ (o1 o2 o5 : Option AV), nL o1 → nL o2 → nL o5 → E sc 111 59 [some (aR (some 77)), o1, o2, some (aI a), some (aI 0), o5] [] I L R K Q := by
    intro hne h2 o1 o2 o5 n1 n2 n5
    have har2 : 0 ≤ a ∧ a < 1536 ∧ I 122 a.toNat ≠ 0 := by
      rcases har with q | q
      · exact absurd q hne
      · exact ⟨q.1, q.2.1, q.2.2⟩
    obtain ⟨b1, b2, b3⟩ := bst_min (ok63 (p := fun s => I 122 s ≠ 0) (a := a) (by omega) har2.2.2)
    have b64 := bst_lt (ok := okSh (fun s => I 122 s ≠ 0) a) 63 Nat.le.refl
    obtain ⟨b, hb⟩ : ∃ b, b = bstF (okSh (fun s => I 122 s ≠ 0) a) 63 := ⟨_, rfl⟩
    rw [← hb] at b1 b2 b3 b64
    have hv : tellV (fun s => I 122 s ≠ 0) a0 = (b : Int) := by
      unfold tellV shwV
      rw [if_neg (by omega), if_neg (by omega), ← ha, if_neg (by omega), ← hb]
    have k2 : (fun (s : Nat) => ∀ (o1 o2 o5 : Option AV) (x4 : Int), nL o1 → nL o2 → nL o5 → x4 = (s : Int) → E sc 111 59 [some (aR (some 77)), o1, o2, some (aI a), some (aI x4), o5] [] I L R K Q) 0 := by
      refine loop_up (C := fun (s : Nat) => ∀ (o1 o2 o5 : Option AV) (x4 : Int), nL o1 → nL o2 → nL o5 → x4 = (s : Int) → E sc 111 59 [some (aR (some 77)), o1, o2, some (aI a), some (aI x4), o5] [] I L R K Q) (pcN 7 b) ?_ ?_
      · intro s hs hc o1 o2 o5 x4 n1 n2 n5 h4
        subst h4
        refine w_111_59 n1 n2 n5 hL ⟨fun q => by omega, fun _ => ?_⟩
        have k3 : (fun (x : Nat) => ∀ (x5 : Int), x5 = (x : Int) → E sc 111 69 [some (aR (some 77)), o1, o2, some (aI a), some (aI (s : Int)), some (aI x5)] [] I L R K Q) 0 := by
          refine loop_up (C := fun (x : Nat) => ∀ (x5 : Int), x5 = (x : Int) → E sc 111 69 [some (aR (some 77)), o1, o2, some (aI a), some (aI (s : Int)), some (aI x5)] [] I L R K Q) 64 ?_ ?_
          · intro x hx hc2 x5 h5
            subst h5
            refine w_111_69 n1 n2 hL ?_
            rw [many_dec x hx, Int.toNat_natCast]
            refine ⟨fun q => by omega, fun q => ⟨⟨by omega, many_b x hx⟩, fun q2 => ⟨by omega, hc2 _ (by omega)⟩, fun q2 => ⟨⟨by omega, by omega⟩, fun q3 => ?_, fun q3 => ⟨by omega, hc2 _ (by omega)⟩⟩⟩⟩
            have := b3 x hx q3
            omega
          · intro x5 h5
            exact w_111_69 n1 n2 hL ⟨fun q => ⟨by omega, hc _ _ _ _ n1 n2 nl_i (by omega)⟩, fun q => by omega⟩
        exact k3 _ rfl
      · intro o1 o2 o5 x4 n1 n2 n5 h4
        subst h4
        refine w_111_59 n1 n2 n5 hL ⟨fun q => by omega, fun _ => ?_⟩
        have k3 : (fun (x : Nat) => ∀ (x5 : Int), x5 = (x : Int) → E sc 111 69 [some (aR (some 77)), o1, o2, some (aI a), some (aI ((pcN 7 b : Nat) : Int)), some (aI x5)] [] I L R K Q) 0 := by
          refine loop_up (C := fun (x : Nat) => ∀ (x5 : Int), x5 = (x : Int) → E sc 111 69 [some (aR (some 77)), o1, o2, some (aI a), some (aI ((pcN 7 b : Nat) : Int)), some (aI x5)] [] I L R K Q) b ?_ ?_
          · intro x hx hc2 x5 h5
            subst h5
            refine w_111_69 n1 n2 hL ?_
            rw [many_dec x (by omega), Int.toNat_natCast]
            refine ⟨fun q => by omega, fun q => ⟨⟨by omega, many_b x (by omega)⟩, fun q2 => ⟨by omega, hc2 _ (by omega)⟩, fun q2 => ⟨⟨by omega, by omega⟩, fun q3 => ?_, fun q3 => ⟨by omega, hc2 _ (by omega)⟩⟩⟩⟩
            have := b3 x (by omega) q3
            omega
          · intro x5 h5
            subst h5
            refine w_111_69 n1 n2 hL ?_
            rw [many_dec b (by omega), Int.toNat_natCast]
            exact ⟨fun q => by omega, fun q => ⟨⟨by omega, many_b b (by omega)⟩, fun q2 => absurd rfl q2, fun q2 => ⟨⟨by omega, by omega⟩, fun q3 => key _ hv.symm, fun q3 => absurd b1 q3⟩⟩⟩
        exact k3 _ rfl
    exact k2 _ _ _ _ n1 n2 n5 rfl
  have k1 : (fun (m : Nat) => ∀ (o5 : Option AV) (x2 x3 x4 : Int), nL o5 → x2 = ((cnt (fun s => I 122 s ≠ 0) 1536 : Nat) : Int) - ((cnt (fun s => I 122 s ≠ 0) (1536 - m) : Nat) : Int) → x3 = ffrom (fun s => I 122 s ≠ 0) (-1) 1536 m → x4 = 1535 - (m : Int) → E sc 111 9 [some (aR (some 77)), some (aI a0), some (aI x2), some (aI x3), some (aI x4), o5] [] I L R K Q) 0 := by
    refine loop_up (C := fun (m : Nat) => ∀ (o5 : Option AV) (x2 x3 x4 : Int), nL o5 → x2 = ((cnt (fun s => I 122 s ≠ 0) 1536 : Nat) : Int) - ((cnt (fun s => I 122 s ≠ 0) (1536 - m) : Nat) : Int) → x3 = ffrom (fun s => I 122 s ≠ 0) (-1) 1536 m → x4 = 1535 - (m : Int) → E sc 111 9 [some (aR (some 77)), some (aI a0), some (aI x2), some (aI x3), some (aI x4), o5] [] I L R K Q) 1536 ?_ ?_
    · intro m hm hc o5 x2 x3 x4 n5 h2 h3 h4
      obtain ⟨n, hn⟩ : ∃ n : Nat, n = 1536 - (m + 1) := ⟨_, rfl⟩
      rw [show 1536 - m = n + 1 by omega] at h2
      rw [← hn] at hc
      have e4 : x4.toNat = n := by omega
      have c1 := cnt_le (p := fun s => I 122 s ≠ 0) 1536
      have c2 := cnt_mono (p := fun s => I 122 s ≠ 0) (i := n + 1) 1536 (by omega)
      have s1 : I 122 n ≠ 0 → cnt (fun s => I 122 s ≠ 0) (n + 1) = cnt (fun s => I 122 s ≠ 0) n + 1 := cnt_s1 (p := fun s => I 122 s ≠ 0)
      have s0 : ¬ I 122 n ≠ 0 → cnt (fun s => I 122 s ≠ 0) (n + 1) = cnt (fun s => I 122 s ≠ 0) n := cnt_s0 (p := fun s => I 122 s ≠ 0)
      refine w_111_9 n5 hL ?_
      rw [e4]
      refine ⟨fun q => by omega, fun q => ⟨by omega, fun q2 => ⟨by omega, hc _ _ _ _ n5 ?_ ?_ (by omega)⟩, fun q2 => ⟨by omega, by omega, hc _ _ _ _ n5 ?_ ?_ (by omega)⟩⟩⟩
      · rw [h2, s0 (fun q3 => q3 q2)]
      · rw [h3, ffrom, ← hn, if_neg (fun q3 => q3 q2)]
      · rw [h2, s1 q2]; omega
      · rw [ffrom, ← hn, if_pos q2]; omega
    · intro o5 x2 x3 x4 n5 h2 h3 h4
      rw [Nat.sub_self] at h2
      rw [← fstF_eq, ← ha] at h3
      have h2 : x2 = ((cnt (fun s => I 122 s ≠ 0) 1536 : Nat) : Int) := by rw [h2]; show _ - ((0 : Nat) : Int) = _; omega
      subst h3
      refine w_111_9 n5 hL ⟨fun q => ⟨fun q2 => ⟨fun q3 => key _ ?_, fun q3 => key _ ?_⟩, fun q2 => ⟨fun q3 => part2 q3 (by omega) _ _ _ nl_i nl_i n5, fun q3 => ⟨fun q4 => key _ ?_, fun q4 => by omega⟩⟩⟩, fun q => by omega⟩
      · unfold tellV; rw [if_neg q3, if_pos (by omega), ha]
      · unfold tellV; rw [if_pos q3, h2]
      · unfold tellV shwV; rw [if_neg (by omega), if_neg (by omega), ← ha, if_pos (by omega), q3]
  refine w_111_0 hL (k1 _ _ _ _ nl_n ?_ rfl rfl)
  show (0 : Int) = _ - _; rw [Nat.sub_zero]; omega
theorem bst_congr {p q : Nat → Prop} [DecidablePred p] [DecidablePred q] : ∀ n, n ≤ 63 → (∀ x, x < 63 → (p x ↔ q x)) → bstF p n = bstF q n := by
  intro n
  induction n with
  | zero => intro _ _; rfl
  | succ n ih =>
    intro hn h
    rw [bstF, bstF, ih (by omega) h]
    by_cases hc : pcN 7 n < pcN 7 (bstF q n) ∧ q n
    · rw [if_pos hc, if_pos ⟨hc.1, (h n (by omega)).mpr hc.2⟩]
    · rw [if_neg hc, if_neg (fun x => hc ⟨x.1, (h n (by omega)).mp x.2⟩)]
theorem tell_congr {p q : Nat → Prop} [DecidablePred p] [DecidablePred q] {w : Int} (h : ∀ s, s < 1536 → (p s ↔ q s)) : tellV p w = tellV q w := by
  unfold tellV shwV
  rw [cnt_congr 1536 h, fstF_congr 1536 h]
  have e : bstF (okSh p (fstF q 1536)) 63 = bstF (okSh q (fstF q 1536)) 63 := bst_congr 63 Nat.le.refl (fun x hx => by
    constructor
    · intro ho s hs hn; exact ho s hs (fun hp => hn ((h s hs).mp hp))
    · intro ho s hs hn; exact ho s hs (fun hp => hn ((h s hs).mpr hp)))
  rw [e]
