/-! findUnlike, findAnswered -/
theorem set69 {R : RH} {K : KH} (hL : Lay R K) : SetAt R K 69 ∧ rf R 69 0 = 70 := by
  have e := rf_eq (lr_69_0 hL)
  unfold SetAt
  rw [e]
  exact ⟨⟨lk_69 hL, lr_69_0 hL, lk_70 hL, ll_70 hL⟩, rfl⟩
theorem lg_trans {L L1 L2 : LH} (h : Lg L L1) (h2 : Lg L1 L2) : Lg L L2 := fun a j q => (h2 a j q).trans (h a j q)
theorem w_240_0 {sc : Nat × (Nat → Int)} {I : IH} {L : LH} {R : RH} {K : KH} {Q : AQ} {a1 a2 a3 : Int} (hL : Lay R K) (h : ((RulesOK I R K)) ∧ (∀ (J1 : IH), (Sg I J1) → (∀ a j, ¬(5 ≤ a ∧ a ≤ 12) → J1 a j = I a j) → (GathS J1 R a3 a3) → ((SetAt R K 69)) ∧ E sc 240 15 [some (aR (some 2)), some (aR (some 69)), some (aI a1), some (aI a2), some (aI a3), some (aI 0)] [] J1 (fillF L (rf R 69 0) 24 (Int64.ofNat ((0 : _root_.Fin 2) : Nat))) R K Q)) : E sc 240 0 [some (aR (some 2)), some (aR (some 69)), some (aI a1), some (aI a2), some (aI a3), none] [] I L R K Q :=
  e_aload_n mb_240 dX5_findUnlike_0 rfl (e_iload mb_240 dX5_findUnlike_1 rfl (e_iload mb_240 dX5_findUnlike_3 rfl (e_callV mb_240 dX5_findUnlike_5 mf_240 mf_235 cs_20543 rfl rfl rfl rfl (lk_2 hL) rfl (v_235s hL h.1 (fun J1 hp2 hp3 hp4 => (show E _ _ _ _ [] _ _ _ _ _ from e_aload_n mb_240 dX5_findUnlike_8 rfl (e_callV mb_240 dX5_findUnlike_9 mf_240 mf_260 cs_20568 rfl rfl rfl rfl (lk_69 hL) rfl (v_260 hL (h.2 J1 hp2 hp3 hp4).1 (show E _ _ _ _ [] _ _ _ _ _ from e_iconst mb_240 dX5_findUnlike_12 cv_iconst_0 (e_istore (l1 := [some (aR (some 2)), some (aR (some 69)), some (aI a1), some (aI a2), some (aI a3), some (aI 0)]) mb_240 dX5_findUnlike_13 rfl ((h.2 J1 hp2 hp3 hp4).2)))))))))))
theorem w_240_15 {sc : Nat × (Nat → Int)} {I : IH} {L : LH} {R : RH} {K : KH} {Q : AQ} {x2 x3 x5 : Int} {o4 : Option AV} (no4 : nL o4) {ka kk : Int} (hL : Lay R K) (h : ((1536 ≤ x5 → Q none I L R K) ∧ (x5 < 1536 → ((RulesOK I R K) ∧ (0 ≤ x2 ∧ x2 < 7) ∧ (GathS I R ka kk)) ∧ ((0 ≤ (ansT I L R x2 x5 ka kk (-1)) ∧ (ansT I L R x2 x5 ka kk (-1)) < 65536)) ∧ ((RulesOK I R K) ∧ (0 ≤ x3 ∧ x3 < 7) ∧ (GathS I R ka kk)) ∧ ((0 ≤ (ansT I L R x3 x5 ka kk (-1)) ∧ (ansT I L R x3 x5 ka kk (-1)) < 65536)) ∧ ((((ansT I L R x2 x5 ka kk (-1)) % 256 - 3) = ((ansT I L R x3 x5 ka kk (-1)) % 256 - 3) → ((-2147483648 : Int) ≤ x5 + 1 ∧ x5 + 1 < (2147483648 : Int)) ∧ E sc 240 15 [some (aR (some 2)), some (aR (some 69)), some (aI x2), some (aI x3), o4, some (aI (x5 + 1))] [] I L R K Q) ∧ (((ansT I L R x2 x5 ka kk (-1)) % 256 - 3) ≠ ((ansT I L R x3 x5 ka kk (-1)) % 256 - 3) → ((SetAt R K 69) ∧ (0 ≤ x5 ∧ x5 < 1536)) ∧ (∀ (L5 : LH), (∀ b j, b ≠ (rf R 69 0) → L5 b j = L b j) → (∀ s, s < 1536 → (inSet L5 (rf R 69 0) s ↔ inSet L (rf R 69 0) s ∨ s = x5.toNat)) → ((-2147483648 : Int) ≤ x5 + 1 ∧ x5 + 1 < (2147483648 : Int)) ∧ E sc 240 15 [some (aR (some 2)), some (aR (some 69)), some (aI x2), some (aI x3), o4, some (aI (x5 + 1))] [] I L5 R K Q)))))) : E sc 240 15 [some (aR (some 2)), some (aR (some 69)), some (aI x2), some (aI x3), o4, some (aI x5)] [] I L R K Q :=
  e_iload mb_240 dX5_findUnlike_15 rfl (e_sipush mb_240 dX5_findUnlike_17 cv_sipush_1536 (e_icmp mb_240 dX5_findUnlike_20 rfl (fun q1 => e_return mb_240 dX5_findUnlike_58 rv_240 (h.1 (cb_ge.1.mp q1))) (fun q1 => e_aload_n mb_240 dX5_findUnlike_23 rfl (e_iload_n mb_240 dX5_findUnlike_24 rfl (e_iload mb_240 dX5_findUnlike_25 rfl (e_callV mb_240 dX5_findUnlike_27 mf_240 mf_237 cs_20551 rfl rfl rfl rfl (lk_2 hL) rfl (show E _ _ _ [some (aR (some 2)), some (aI x2), some (aI x5)] [] _ _ _ _ _ from e_aload_n mb_237 dX5_top_0 rfl (e_iconst mb_237 dX5_top_1 cv_iconst_m1 (e_iload_n mb_237 dX5_top_2 rfl (e_iload_n mb_237 dX5_top_3 rfl (e_callV mb_237 dX5_top_4 mf_237 mf_236 cs_20540 rfl rfl rfl rfl (lk_2 hL) rfl (v_236s hL (h.2 (cb_ge.2.mp q1)).1.1 (h.2 (cb_ge.2.mp q1)).1.2.1 (h.2 (cb_ge.2.mp q1)).1.2.2 (show E _ _ _ _ (_ :: _) _ _ _ _ _ from e_ireturn mb_237 dX5_top_7 ri_237 (show E _ _ _ _ [aI (ansT I L R x2 x5 ka kk (-1))] _ _ _ _ _ from e_callS mb_240 dX5_findUnlike_30 mf_240 mf_63 cs_20547 rfl rfl rfl rfl (v_63 hL (h.2 (cb_ge.2.mp q1)).2.1 (show E _ _ _ _ (_ :: _) _ _ _ _ _ from e_aload_n mb_240 dX5_findUnlike_33 rfl (e_iload_n mb_240 dX5_findUnlike_34 rfl (e_iload mb_240 dX5_findUnlike_35 rfl (e_callV mb_240 dX5_findUnlike_37 mf_240 mf_237 cs_20551 rfl rfl rfl rfl (lk_2 hL) rfl (show E _ _ _ [some (aR (some 2)), some (aI x3), some (aI x5)] [] _ _ _ _ _ from e_aload_n mb_237 dX5_top_0 rfl (e_iconst mb_237 dX5_top_1 cv_iconst_m1 (e_iload_n mb_237 dX5_top_2 rfl (e_iload_n mb_237 dX5_top_3 rfl (e_callV mb_237 dX5_top_4 mf_237 mf_236 cs_20540 rfl rfl rfl rfl (lk_2 hL) rfl (v_236s hL (h.2 (cb_ge.2.mp q1)).2.2.1.1 (h.2 (cb_ge.2.mp q1)).2.2.1.2.1 (h.2 (cb_ge.2.mp q1)).2.2.1.2.2 (show E _ _ _ _ (_ :: _) _ _ _ _ _ from e_ireturn mb_237 dX5_top_7 ri_237 (show E _ _ _ _ [aI (ansT I L R x3 x5 ka kk (-1)), aI ((ansT I L R x2 x5 ka kk (-1)) % 256 - 3)] _ _ _ _ _ from e_callS mb_240 dX5_findUnlike_40 mf_240 mf_63 cs_20547 rfl rfl rfl rfl (v_63 hL (h.2 (cb_ge.2.mp q1)).2.2.2.1 (show E _ _ _ _ (_ :: _) _ _ _ _ _ from e_icmp mb_240 dX5_findUnlike_43 rfl (fun q2 => e_iinc (l1 := [some (aR (some 2)), some (aR (some 69)), some (aI x2), some (aI x3), o4, some (aI (x5 + 1))]) mb_240 dX5_findUnlike_52 rfl ((h.2 (cb_ge.2.mp q1)).2.2.2.2.1 (cb_eq.1.mp q2)).1 (aset_nl no4 rfl rfl rfl) (e_goto mb_240 dX5_findUnlike_55 rfl (((h.2 (cb_ge.2.mp q1)).2.2.2.2.1 (cb_eq.1.mp q2)).2))) (fun q2 => e_aload_n mb_240 dX5_findUnlike_46 rfl (e_iload mb_240 dX5_findUnlike_47 rfl (e_callV mb_240 dX5_findUnlike_49 mf_240 mf_261 cs_20571 rfl rfl rfl rfl (lk_69 hL) rfl (v_261 hL ((h.2 (cb_ge.2.mp q1)).2.2.2.2.2 (cb_eq.2.mp q2)).1.1 ((h.2 (cb_ge.2.mp q1)).2.2.2.2.2 (cb_eq.2.mp q2)).1.2 (fun L5 hp6 hp7 => (show E _ _ _ _ [] _ _ _ _ _ from e_iinc (l1 := [some (aR (some 2)), some (aR (some 69)), some (aI x2), some (aI x3), o4, some (aI (x5 + 1))]) mb_240 dX5_findUnlike_52 rfl (((h.2 (cb_ge.2.mp q1)).2.2.2.2.2 (cb_eq.2.mp q2)).2 L5 hp6 hp7).1 (aset_nl no4 rfl rfl rfl) (e_goto mb_240 dX5_findUnlike_55 rfl ((((h.2 (cb_ge.2.mp q1)).2.2.2.2.2 (cb_eq.2.mp q2)).2 L5 hp6 hp7).2)))))))))))))))))))))))))))))))))))))
set_option maxHeartbeats 1000000 in
theorem v_240 {sc : Nat × (Nat → Int)} {I : IH} {L : LH} {R : RH} {K : KH} {Q : AQ} {a1 a2 a3 : Int} (hL : Lay R K) (hR : RulesOK I R K) (ha : 0 ≤ a1 ∧ a1 < 7) (hb : 0 ≤ a2 ∧ a2 < 7) (h : ∀ (J : IH) (L1 : LH), Sg I J → Lg L L1 → (∀ s : Nat, s < 1536 → (inSet L1 70 s ↔ ansC I L R a1 (s : Int) a3 a3 ≠ ansC I L R a2 (s : Int) a3 a3)) → Q none J L1 R K) : E sc 240 0 [some (aR (some 2)), some (aR (some 69)), some (aI a1), some (aI a2), some (aI a3), none] [] I L R K Q := by
  obtain ⟨h69, r69⟩ := set69 hL
  refine w_240_0 hL ⟨hR, fun J hs hJ hG => ⟨h69, ?_⟩⟩
  rw [r69]
  have hRJ := rulesOK_sg hR hs
  have eT : ∀ (L1 : LH) (g s : Int), Lg L L1 → ansT J L1 R g s a3 a3 (-1) % 256 - 3 = ansC I L R g s a3 a3 := fun L1 g s hl => by
    have := ansC_sg (g := g) (s := s) (a := a3) (k := a3) hR hs hl
    unfold ansC at this ⊢
    exact this
  have key : (fun (m : Nat) => ∀ (L1 : LH) (o4 : Option AV) (x5 : Int), nL o4 → Lg L L1 → (∀ s : Nat, s < 1536 → (inSet L1 70 s ↔ s < m ∧ ansC I L R a1 (s : Int) a3 a3 ≠ ansC I L R a2 (s : Int) a3 a3)) → x5 = (m : Int) → E sc 240 15 [some (aR (some 2)), some (aR (some 69)), some (aI a1), some (aI a2), o4, some (aI x5)] [] J L1 R K Q) 0 := by
    refine loop_up (C := fun (m : Nat) => ∀ (L1 : LH) (o4 : Option AV) (x5 : Int), nL o4 → Lg L L1 → (∀ s : Nat, s < 1536 → (inSet L1 70 s ↔ s < m ∧ ansC I L R a1 (s : Int) a3 a3 ≠ ansC I L R a2 (s : Int) a3 a3)) → x5 = (m : Int) → E sc 240 15 [some (aR (some 2)), some (aR (some 69)), some (aI a1), some (aI a2), o4, some (aI x5)] [] J L1 R K Q) 1536 ?_ ?_
    · intro m hm hc L1 o4 x5 no4 hl hset h5
      subst h5
      have hrg : ∀ g s : Int, 0 ≤ ansT J L1 R g s a3 a3 (-1) ∧ ansT J L1 R g s a3 a3 (-1) < 65536 := fun g s => ansT_rng hRJ
      refine w_240_15 (ka := a3) (kk := a3) no4 hL ?_
      rw [r69]
      simp only [eT L1 _ _ hl, Int.toNat_natCast]
      refine ⟨fun q => by omega, fun q => ⟨(by first | exact ⟨hRJ, by omega, hG⟩ | exact hrg _ _ | omega | exact ⟨h69, by omega⟩ | exact ⟨h69.1, h69, by omega⟩), ⟨(by first | exact ⟨hRJ, by omega, hG⟩ | exact hrg _ _ | omega | exact ⟨h69, by omega⟩ | exact ⟨h69.1, h69, by omega⟩), ⟨(by first | exact ⟨hRJ, by omega, hG⟩ | exact hrg _ _ | omega | exact ⟨h69, by omega⟩ | exact ⟨h69.1, h69, by omega⟩), ⟨(by first | exact ⟨hRJ, by omega, hG⟩ | exact hrg _ _ | omega | exact ⟨h69, by omega⟩ | exact ⟨h69.1, h69, by omega⟩), ⟨fun q2 => ⟨(by first | exact ⟨hRJ, by omega, hG⟩ | exact hrg _ _ | omega | exact ⟨h69, by omega⟩ | exact ⟨h69.1, h69, by omega⟩), hc _ _ _ no4 hl ?_ (by omega)⟩, fun q2 => ⟨(by first | exact ⟨hRJ, by omega, hG⟩ | exact hrg _ _ | omega | exact ⟨h69, by omega⟩ | exact ⟨h69.1, h69, by omega⟩), fun L5 hp6 hp7 => ⟨(by first | exact ⟨hRJ, by omega, hG⟩ | exact hrg _ _ | omega | exact ⟨h69, by omega⟩ | exact ⟨h69.1, h69, by omega⟩), hc _ _ _ no4 ?_ ?_ (by omega)⟩⟩⟩⟩⟩⟩⟩⟩
      · intro s hs2
        rw [hset s hs2]
        constructor
        · rintro ⟨s1, s2⟩; exact ⟨by omega, s2⟩
        · rintro ⟨s1, s2⟩
          refine ⟨?_, s2⟩
          by_cases e : s = m
          · subst e; first | exact absurd q2 s2 | exact absurd s2 q2
          · omega
      · intro b j hb
        exact (hp6 b j hb).trans (hl b j hb)
      · intro s hs2
        rw [hp7 s hs2, hset s hs2]
        constructor
        · rintro (⟨s1, s2⟩ | s1)
          · exact ⟨by omega, s2⟩
          · subst s1; exact ⟨by omega, q2⟩
        · rintro ⟨s1, s2⟩
          by_cases e : s = m
          · exact Or.inr e
          · exact Or.inl ⟨by omega, s2⟩
    · intro L1 o4 x5 no4 hl hset h5
      refine w_240_15 (ka := a3) (kk := a3) no4 hL ⟨fun q => h J L1 hs hl (fun s hs2 => ?_), fun q => by omega⟩
      rw [hset s hs2]
      exact ⟨fun q2 => q2.2, fun q2 => ⟨hs2, q2⟩⟩
  refine key _ _ _ (by first | exact nl_n | exact nl_i) (fun a j q => ?_) (fun s hs2 => ?_) rfl
  · unfold fillF; rw [if_neg (fun q2 => q q2.1)]
  · unfold inSet fillF
    rw [if_pos ⟨rfl, by omega⟩]
    constructor
    · intro q; rw [show (Int64.ofNat ((0 : _root_.Fin 2) : Nat)).toBitVec.getLsbD (s % 64) = false from BitVec.getLsbD_zero] at q; exact absurd q Bool.false_ne_true
    · rintro ⟨s1, -⟩; omega
theorem w_241_0 {sc : Nat × (Nat → Int)} {I : IH} {L : LH} {R : RH} {K : KH} {Q : AQ} {a1 a2 a3 : Int} (hL : Lay R K) (h : ((RulesOK I R K)) ∧ (∀ (J1 : IH), (Sg I J1) → (∀ a j, ¬(5 ≤ a ∧ a ≤ 12) → J1 a j = I a j) → (GathS J1 R a3 a3) → ((SetAt R K 69)) ∧ E sc 241 15 [some (aR (some 2)), some (aR (some 69)), some (aI a1), some (aI a2), some (aI a3), some (aI 0)] [] J1 (fillF L (rf R 69 0) 24 (Int64.ofNat ((0 : _root_.Fin 2) : Nat))) R K Q)) : E sc 241 0 [some (aR (some 2)), some (aR (some 69)), some (aI a1), some (aI a2), some (aI a3), none] [] I L R K Q :=
  e_aload_n mb_241 dX5_findAnswered_0 rfl (e_iload mb_241 dX5_findAnswered_1 rfl (e_iload mb_241 dX5_findAnswered_3 rfl (e_callV mb_241 dX5_findAnswered_5 mf_241 mf_235 cs_20543 rfl rfl rfl rfl (lk_2 hL) rfl (v_235s hL h.1 (fun J1 hp2 hp3 hp4 => (show E _ _ _ _ [] _ _ _ _ _ from e_aload_n mb_241 dX5_findAnswered_8 rfl (e_callV mb_241 dX5_findAnswered_9 mf_241 mf_260 cs_20568 rfl rfl rfl rfl (lk_69 hL) rfl (v_260 hL (h.2 J1 hp2 hp3 hp4).1 (show E _ _ _ _ [] _ _ _ _ _ from e_iconst mb_241 dX5_findAnswered_12 cv_iconst_0 (e_istore (l1 := [some (aR (some 2)), some (aR (some 69)), some (aI a1), some (aI a2), some (aI a3), some (aI 0)]) mb_241 dX5_findAnswered_13 rfl ((h.2 J1 hp2 hp3 hp4).2)))))))))))
theorem w_241_15 {sc : Nat × (Nat → Int)} {I : IH} {L : LH} {R : RH} {K : KH} {Q : AQ} {x2 x3 x5 : Int} {o4 : Option AV} (no4 : nL o4) {ka kk : Int} (hL : Lay R K) (h : ((1536 ≤ x5 → Q none I L R K) ∧ (x5 < 1536 → ((RulesOK I R K) ∧ (0 ≤ x2 ∧ x2 < 7) ∧ (GathS I R ka kk)) ∧ ((0 ≤ (ansT I L R x2 x5 ka kk (-1)) ∧ (ansT I L R x2 x5 ka kk (-1)) < 65536)) ∧ ((((ansT I L R x2 x5 ka kk (-1)) % 256 - 3) ≠ x3 → ((-2147483648 : Int) ≤ x5 + 1 ∧ x5 + 1 < (2147483648 : Int)) ∧ E sc 241 15 [some (aR (some 2)), some (aR (some 69)), some (aI x2), some (aI x3), o4, some (aI (x5 + 1))] [] I L R K Q) ∧ (((ansT I L R x2 x5 ka kk (-1)) % 256 - 3) = x3 → ((SetAt R K 69) ∧ (0 ≤ x5 ∧ x5 < 1536)) ∧ (∀ (L5 : LH), (∀ b j, b ≠ (rf R 69 0) → L5 b j = L b j) → (∀ s, s < 1536 → (inSet L5 (rf R 69 0) s ↔ inSet L (rf R 69 0) s ∨ s = x5.toNat)) → ((-2147483648 : Int) ≤ x5 + 1 ∧ x5 + 1 < (2147483648 : Int)) ∧ E sc 241 15 [some (aR (some 2)), some (aR (some 69)), some (aI x2), some (aI x3), o4, some (aI (x5 + 1))] [] I L5 R K Q)))))) : E sc 241 15 [some (aR (some 2)), some (aR (some 69)), some (aI x2), some (aI x3), o4, some (aI x5)] [] I L R K Q :=
  e_iload mb_241 dX5_findAnswered_15 rfl (e_sipush mb_241 dX5_findAnswered_17 cv_sipush_1536 (e_icmp mb_241 dX5_findAnswered_20 rfl (fun q1 => e_return mb_241 dX5_findAnswered_49 rv_241 (h.1 (cb_ge.1.mp q1))) (fun q1 => e_aload_n mb_241 dX5_findAnswered_23 rfl (e_iload_n mb_241 dX5_findAnswered_24 rfl (e_iload mb_241 dX5_findAnswered_25 rfl (e_callV mb_241 dX5_findAnswered_27 mf_241 mf_237 cs_20551 rfl rfl rfl rfl (lk_2 hL) rfl (show E _ _ _ [some (aR (some 2)), some (aI x2), some (aI x5)] [] _ _ _ _ _ from e_aload_n mb_237 dX5_top_0 rfl (e_iconst mb_237 dX5_top_1 cv_iconst_m1 (e_iload_n mb_237 dX5_top_2 rfl (e_iload_n mb_237 dX5_top_3 rfl (e_callV mb_237 dX5_top_4 mf_237 mf_236 cs_20540 rfl rfl rfl rfl (lk_2 hL) rfl (v_236s hL (h.2 (cb_ge.2.mp q1)).1.1 (h.2 (cb_ge.2.mp q1)).1.2.1 (h.2 (cb_ge.2.mp q1)).1.2.2 (show E _ _ _ _ (_ :: _) _ _ _ _ _ from e_ireturn mb_237 dX5_top_7 ri_237 (show E _ _ _ _ [aI (ansT I L R x2 x5 ka kk (-1))] _ _ _ _ _ from e_callS mb_241 dX5_findAnswered_30 mf_241 mf_63 cs_20547 rfl rfl rfl rfl (v_63 hL (h.2 (cb_ge.2.mp q1)).2.1 (show E _ _ _ _ (_ :: _) _ _ _ _ _ from e_iload_n mb_241 dX5_findAnswered_33 rfl (e_icmp mb_241 dX5_findAnswered_34 rfl (fun q2 => e_iinc (l1 := [some (aR (some 2)), some (aR (some 69)), some (aI x2), some (aI x3), o4, some (aI (x5 + 1))]) mb_241 dX5_findAnswered_43 rfl ((h.2 (cb_ge.2.mp q1)).2.2.1 (cb_ne.1.mp q2)).1 (aset_nl no4 rfl rfl rfl) (e_goto mb_241 dX5_findAnswered_46 rfl (((h.2 (cb_ge.2.mp q1)).2.2.1 (cb_ne.1.mp q2)).2))) (fun q2 => e_aload_n mb_241 dX5_findAnswered_37 rfl (e_iload mb_241 dX5_findAnswered_38 rfl (e_callV mb_241 dX5_findAnswered_40 mf_241 mf_261 cs_20571 rfl rfl rfl rfl (lk_69 hL) rfl (v_261 hL ((h.2 (cb_ge.2.mp q1)).2.2.2 (cb_ne.2.mp q2)).1.1 ((h.2 (cb_ge.2.mp q1)).2.2.2 (cb_ne.2.mp q2)).1.2 (fun L5 hp6 hp7 => (show E _ _ _ _ [] _ _ _ _ _ from e_iinc (l1 := [some (aR (some 2)), some (aR (some 69)), some (aI x2), some (aI x3), o4, some (aI (x5 + 1))]) mb_241 dX5_findAnswered_43 rfl (((h.2 (cb_ge.2.mp q1)).2.2.2 (cb_ne.2.mp q2)).2 L5 hp6 hp7).1 (aset_nl no4 rfl rfl rfl) (e_goto mb_241 dX5_findAnswered_46 rfl ((((h.2 (cb_ge.2.mp q1)).2.2.2 (cb_ne.2.mp q2)).2 L5 hp6 hp7).2)))))))))))))))))))))))))
set_option maxHeartbeats 1000000 in
theorem v_241 {sc : Nat × (Nat → Int)} {I : IH} {L : LH} {R : RH} {K : KH} {Q : AQ} {a1 a2 a3 : Int} (hL : Lay R K) (hR : RulesOK I R K) (ha : 0 ≤ a1 ∧ a1 < 7) (h : ∀ (J : IH) (L1 : LH), Sg I J → Lg L L1 → (∀ s : Nat, s < 1536 → (inSet L1 70 s ↔ ansC I L R a1 (s : Int) a3 a3 = a2)) → Q none J L1 R K) : E sc 241 0 [some (aR (some 2)), some (aR (some 69)), some (aI a1), some (aI a2), some (aI a3), none] [] I L R K Q := by
  obtain ⟨h69, r69⟩ := set69 hL
  refine w_241_0 hL ⟨hR, fun J hs hJ hG => ⟨h69, ?_⟩⟩
  rw [r69]
  have hRJ := rulesOK_sg hR hs
  have eT : ∀ (L1 : LH) (g s : Int), Lg L L1 → ansT J L1 R g s a3 a3 (-1) % 256 - 3 = ansC I L R g s a3 a3 := fun L1 g s hl => by
    have := ansC_sg (g := g) (s := s) (a := a3) (k := a3) hR hs hl
    unfold ansC at this ⊢
    exact this
  have key : (fun (m : Nat) => ∀ (L1 : LH) (o4 : Option AV) (x5 : Int), nL o4 → Lg L L1 → (∀ s : Nat, s < 1536 → (inSet L1 70 s ↔ s < m ∧ ansC I L R a1 (s : Int) a3 a3 = a2)) → x5 = (m : Int) → E sc 241 15 [some (aR (some 2)), some (aR (some 69)), some (aI a1), some (aI a2), o4, some (aI x5)] [] J L1 R K Q) 0 := by
    refine loop_up (C := fun (m : Nat) => ∀ (L1 : LH) (o4 : Option AV) (x5 : Int), nL o4 → Lg L L1 → (∀ s : Nat, s < 1536 → (inSet L1 70 s ↔ s < m ∧ ansC I L R a1 (s : Int) a3 a3 = a2)) → x5 = (m : Int) → E sc 241 15 [some (aR (some 2)), some (aR (some 69)), some (aI a1), some (aI a2), o4, some (aI x5)] [] J L1 R K Q) 1536 ?_ ?_
    · intro m hm hc L1 o4 x5 no4 hl hset h5
      subst h5
      have hrg : ∀ g s : Int, 0 ≤ ansT J L1 R g s a3 a3 (-1) ∧ ansT J L1 R g s a3 a3 (-1) < 65536 := fun g s => ansT_rng hRJ
      refine w_241_15 (ka := a3) (kk := a3) no4 hL ?_
      rw [r69]
      simp only [eT L1 _ _ hl, Int.toNat_natCast]
      refine ⟨fun q => by omega, fun q => ⟨(by first | exact ⟨hRJ, by omega, hG⟩ | exact hrg _ _ | omega | exact ⟨h69, by omega⟩ | exact ⟨h69.1, h69, by omega⟩), ⟨(by first | exact ⟨hRJ, by omega, hG⟩ | exact hrg _ _ | omega | exact ⟨h69, by omega⟩ | exact ⟨h69.1, h69, by omega⟩), ⟨fun q2 => ⟨(by first | exact ⟨hRJ, by omega, hG⟩ | exact hrg _ _ | omega | exact ⟨h69, by omega⟩ | exact ⟨h69.1, h69, by omega⟩), hc _ _ _ no4 hl ?_ (by omega)⟩, fun q2 => ⟨(by first | exact ⟨hRJ, by omega, hG⟩ | exact hrg _ _ | omega | exact ⟨h69, by omega⟩ | exact ⟨h69.1, h69, by omega⟩), fun L5 hp6 hp7 => ⟨(by first | exact ⟨hRJ, by omega, hG⟩ | exact hrg _ _ | omega | exact ⟨h69, by omega⟩ | exact ⟨h69.1, h69, by omega⟩), hc _ _ _ no4 ?_ ?_ (by omega)⟩⟩⟩⟩⟩⟩
      · intro s hs2
        rw [hset s hs2]
        constructor
        · rintro ⟨s1, s2⟩; exact ⟨by omega, s2⟩
        · rintro ⟨s1, s2⟩
          refine ⟨?_, s2⟩
          by_cases e : s = m
          · subst e; first | exact absurd q2 s2 | exact absurd s2 q2
          · omega
      · intro b j hb
        exact (hp6 b j hb).trans (hl b j hb)
      · intro s hs2
        rw [hp7 s hs2, hset s hs2]
        constructor
        · rintro (⟨s1, s2⟩ | s1)
          · exact ⟨by omega, s2⟩
          · subst s1; exact ⟨by omega, q2⟩
        · rintro ⟨s1, s2⟩
          by_cases e : s = m
          · exact Or.inr e
          · exact Or.inl ⟨by omega, s2⟩
    · intro L1 o4 x5 no4 hl hset h5
      refine w_241_15 (ka := a3) (kk := a3) no4 hL ⟨fun q => h J L1 hs hl (fun s hs2 => ?_), fun q => by omega⟩
      rw [hset s hs2]
      exact ⟨fun q2 => q2.2, fun q2 => ⟨hs2, q2⟩⟩
  refine key _ _ _ (by first | exact nl_n | exact nl_i) (fun a j q => ?_) (fun s hs2 => ?_) rfl
  · unfold fillF; rw [if_neg (fun q2 => q q2.1)]
  · unfold inSet fillF
    rw [if_pos ⟨rfl, by omega⟩]
    constructor
    · intro q; rw [show (Int64.ofNat ((0 : _root_.Fin 2) : Nat)).toBitVec.getLsbD (s % 64) = false from BitVec.getLsbD_zero] at q; exact absurd q Bool.false_ne_true
    · rintro ⟨s1, -⟩; omega
