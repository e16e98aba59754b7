/-! scratch; answers of bodies as functions of the heap -/
def S0 (a j : Nat) : Prop := (5 ≤ a ∧ a ≤ 12) ∨ a = 26 ∨ (a = 22 ∧ j = 4) ∨ (40 ≤ a ∧ a ≤ 44) ∨ (a = 36 ∧ j = 8) ∨ a = 61 ∨ (122 ≤ a ∧ a ≤ 130) ∨ (a = 77 ∧ (j = 55 ∨ j = 56 ∨ j = 58 ∨ j = 68))
def Sg (I J : IH) : Prop := ∀ a j, ¬ S0 a j → J a j = I a j
theorem sg_r {I : IH} : Sg I I := fun _ _ _ => rfl
theorem sg_t {I J J2 : IH} (h : Sg I J) (h2 : Sg J J2) : Sg I J2 := fun a j q => (h2 a j q).trans (h a j q)
theorem sg_s {I J : IH} {a i : Nat} {v : Int} (h : Sg I J) (hs : S0 a i) : Sg I (setF J a i v) := fun b j q => by
  rw [setF_n (fun e => q (by rw [e.1, e.2]; exact hs))]; exact h b j q
theorem sg_58 {I J : IH} {v : Int} (h : Sg I J) : Sg I (setF J 77 58 v) := sg_s h (by unfold S0; omega)
def Lg (L L1 : LH) : Prop := ∀ a j, a ≠ 70 → L1 a j = L a j
theorem lg_r {L : LH} : Lg L L := fun _ _ _ => rfl
theorem inv_sg {N : Nat} {I J : IH} {L L1 : LH} {R : RH} {K : KH} (hI : Inv N I L R K) (h : Sg I J) (hl : Lg L L1) : Inv N J L1 R K :=
  inv_sc hI (fun a j q => h a j (fun q2 => q (by unfold S0 at q2; unfold Sc; omega))) (fun a j q _ => hl a j q)
theorem sg_hi {I J : IH} (h : Sg I J) : ∀ a j, 71 ≤ a → a ≤ 76 ∨ 131 ≤ a → J a j = I a j := fun a j q q2 => h a j (by unfold S0; omega)
def ansT (I : IH) (L : LH) (R : RH) (g s a k wo : Int) : Int := twV (gP I R a k g) I L R wo s (I 2 4).toNat
def ansC (I : IH) (L : LH) (R : RH) (g s a k : Int) : Int := ansT I L R g s a k (-1) % 256 - 3
def GathS (I : IH) (R : RH) (a k : Int) : Prop := Gath I R a k I (I 2 4).toNat
theorem gP_sg {I J : IH} {R : RH} {K : KH} {a k g : Int} {i : Nat} (hR : RuleOK I R K i) (h : Sg I J) : gP J R a k g i ↔ gP I R a k g i := by
  obtain ⟨g1, g2, g3, g4, -⟩ := hR
  have ej : ∀ j, J (rf R 3 i) j = I (rf R 3 i) j := fun j => h _ _ (by unfold S0; omega)
  have eF : inFo J R (rf R 3 i) a k ↔ inFo I R (rf R 3 i) a k := inFo_ag ej (fun j => h _ _ (by unfold S0; omega))
  have eg : grp J (rf R 3 i) = grp I (rf R 3 i) := by unfold grp; rw [ej, ej]
  unfold gP
  rw [eg]
  exact and_congr_left' eF
theorem sg24 {I J : IH} (h : Sg I J) : J 2 4 = I 2 4 := h _ _ (by unfold S0; omega)
theorem rulesOK_sg {I J : IH} {R : RH} {K : KH} (hR : RulesOK I R K) (h : Sg I J) : RulesOK J R K := by
  obtain ⟨a1, a2, a3⟩ := hR
  refine ⟨by rw [sg24 h]; exact a1, by rw [sg24 h]; exact a2, fun i hi => ?_⟩
  rw [sg24 h] at hi
  obtain ⟨g1, g2, g3, g4, g5, g6, g7, g8, g9, g10⟩ := a3 i hi
  have ej : ∀ j, J (rf R 3 i) j = I (rf R 3 i) j := fun j => h _ _ (by unfold S0; omega)
  unfold RuleOK
  rw [ej, ej, ej, ej, ej]
  refine ⟨g1, g2, g3, g4, g5, g6, g7, g8, g9, ?_⟩
  obtain ⟨t1, t2, t3, t4, t5, t6⟩ := g10
  refine ⟨t1, t2, t3, t4, t5, ?_⟩
  rw [h _ _ (by unfold S0; omega)]; exact t6
theorem ansT_sg {I J : IH} {L L1 : LH} {R : RH} {K : KH} {g s a k wo : Int} (hR : RulesOK I R K) (h : Sg I J) (hl : Lg L L1) : ansT J L1 R g s a k wo = ansT I L R g s a k wo := by
  unfold ansT twV
  rw [sg24 h]
  refine topF_congr _ (fun i hi => ?_)
  obtain hRi := hR.2.2 i (by omega)
  have hg := gP_sg (a := a) (k := k) (g := g) hRi h
  obtain ⟨g1, g2, g3, g4, g5, g6, g7, g8, g9, g10⟩ := hRi
  obtain ⟨t1, t2, t3, t4, t5, t6⟩ := g10
  have hf : fitP L1 R (rf R (rf R 3 i) 0) s ↔ fitP L R (rf R (rf R 3 i) 0) s := by
    unfold fitP inSet
    rw [t5, hl _ _ (by omega)]
  refine ⟨and_congr hg (and_congr_right' hf), fun _ => ⟨h _ _ (by unfold S0; omega), h _ _ (by unfold S0; omega)⟩⟩
theorem ansC_sg {I J : IH} {L L1 : LH} {R : RH} {K : KH} {g s a k : Int} (hR : RulesOK I R K) (h : Sg I J) (hl : Lg L L1) : ansC J L1 R g s a k = ansC I L R g s a k := by
  unfold ansC; rw [ansT_sg hR h hl]
theorem ansT_rng {I : IH} {L : LH} {R : RH} {K : KH} {g s a k wo : Int} (hR : RulesOK I R K) : 0 ≤ ansT I L R g s a k wo ∧ ansT I L R g s a k wo < 65536 := twV_rng hR _ (by have := hR.1; omega)
theorem gathS_sg {I J : IH} {L : LH} {R : RH} {K : KH} {a k : Int} (hR : RulesOK I R K) (h : Sg I J) (hG : Gath I R a k J (I 2 4).toNat) : GathS J R a k := by
  unfold GathS
  rw [sg24 h]
  intro g hg
  obtain ⟨h1, h2⟩ := hG g hg
  have e : ∀ m, m ≤ (I 2 4).toNat → cnt (gP J R a k g) m = cnt (gP I R a k g) m := fun m hm => cnt_congr m (fun i hi => gP_sg (hR.2.2 i (by omega)) h)
  refine ⟨by rw [e _ Nat.le.refl]; exact h1, fun i hi hp => ?_⟩
  rw [e i (by omega)]
  exact h2 i hi ((gP_sg (hR.2.2 i (by omega)) h).mp hp)
/-- gather: what it leaves -/
theorem v_235s {sc : Nat × (Nat → Int)} {I : IH} {L : LH} {R : RH} {K : KH} {Q : AQ} {a0 a1 : Int} (hL : Lay R K) (hR : RulesOK I R K) (h : ∀ J : IH, Sg I J → (∀ a j, ¬(5 ≤ a ∧ a ≤ 12) → J a j = I a j) → GathS J R a0 a1 → Q none J L R K) : E sc 235 0 [some (aR (some 2)), some (aI a0), some (aI a1), none, none] [] I L R K Q :=
  v_235 hL hR (fun J hJ hG => by
    have hs : Sg I J := fun a j q => hJ a j (fun q2 => q (by unfold S0; omega))
    exact h J hs hJ (gathS_sg (L := L) hR hs hG))
theorem v_236s {sc : Nat × (Nat → Int)} {I : IH} {L : LH} {R : RH} {K : KH} {Q : AQ} {a0 a1 a2 a k : Int} (hL : Lay R K) (hR : RulesOK I R K) (hg : 0 ≤ a1 ∧ a1 < 7) (hG : GathS I R a k) (h : Q (some (aI (ansT I L R a1 a2 a k a0))) I L R K) : E sc 236 0 [some (aR (some 2)), some (aI a0), some (aI a1), some (aI a2), none, none, none, none] [] I L R K Q := by
  have e : ((a1.toNat : Nat) : Int) = a1 := by omega
  have hG2 := hG a1.toNat (by omega)
  rw [e] at hG2
  exact v_236 (p := gP I R a k a1) hL hR hg hG2 h
theorem w_238_0 {sc : Nat × (Nat → Int)} {I : IH} {L : LH} {R : RH} {K : KH} {Q : AQ} {a0 a1 a2 a3 : Int} (hL : Lay R K) (h : ((RulesOK I R K)) ∧ (∀ (J1 : IH), (Sg I J1) → (∀ a j, ¬(5 ≤ a ∧ a ≤ 12) → J1 a j = I a j) → (GathS J1 R a2 a3) → ((RulesOK J1 R K) ∧ (0 ≤ a0 ∧ a0 < 7) ∧ (GathS J1 R a2 a3)) ∧ ((0 ≤ (ansT J1 L R a0 a1 a2 a3 (-1)) ∧ (ansT J1 L R a0 a1 a2 a3 (-1)) < 65536)) ∧ Q (some (aI ((ansT J1 L R a0 a1 a2 a3 (-1)) % 256 - 3))) J1 L R K)) : E sc 238 0 [some (aR (some 2)), some (aI a0), some (aI a1), some (aI a2), some (aI a3)] [] I L R K Q :=
  e_aload_n mb_238 dX5_answerOf_0 rfl (e_iload_n mb_238 dX5_answerOf_1 rfl (e_iload mb_238 dX5_answerOf_2 rfl (e_callV mb_238 dX5_answerOf_4 mf_238 mf_235 cs_20543 rfl rfl rfl rfl (lk_2 hL) rfl (v_235s hL h.1 (fun J1 hp2 hp3 hp4 => (show E _ _ _ _ [] _ _ _ _ _ from e_aload_n mb_238 dX5_answerOf_7 rfl (e_iconst mb_238 dX5_answerOf_8 cv_iconst_m1 (e_iload_n mb_238 dX5_answerOf_9 rfl (e_iload_n mb_238 dX5_answerOf_10 rfl (e_callV mb_238 dX5_answerOf_11 mf_238 mf_236 cs_20540 rfl rfl rfl rfl (lk_2 hL) rfl (v_236s hL (h.2 J1 hp2 hp3 hp4).1.1 (h.2 J1 hp2 hp3 hp4).1.2.1 (h.2 J1 hp2 hp3 hp4).1.2.2 (show E _ _ _ _ (_ :: _) _ _ _ _ _ from e_callS mb_238 dX5_answerOf_14 mf_238 mf_63 cs_20547 rfl rfl rfl rfl (v_63 hL (h.2 J1 hp2 hp3 hp4).2.1 (show E _ _ _ _ (_ :: _) _ _ _ _ _ from e_ireturn mb_238 dX5_answerOf_17 ri_238 (h.2 J1 hp2 hp3 hp4).2.2))))))))))))))
theorem v_238 {sc : Nat × (Nat → Int)} {I : IH} {L : LH} {R : RH} {K : KH} {Q : AQ} {a0 a1 a2 a3 : Int} (hL : Lay R K) (hR : RulesOK I R K) (hg : 0 ≤ a0 ∧ a0 < 7) (h : ∀ J : IH, Sg I J → Q (some (aI (ansC I L R a0 a1 a2 a3))) J L R K) : E sc 238 0 [some (aR (some 2)), some (aI a0), some (aI a1), some (aI a2), some (aI a3)] [] I L R K Q := by
  refine w_238_0 hL ⟨hR, fun J hs hJ hG => ⟨⟨rulesOK_sg hR hs, hg, hG⟩, ⟨ansT_rng (rulesOK_sg hR hs), ?_⟩⟩⟩
  have := h J hs
  rw [← ansC_sg hR hs lg_r] at this
  exact this
/-- LAW, by the class's cells -/
def hasC (I : IH) (d t : Int) : Prop := I 17 d.toNat ≠ -1 ∧ I 17 d.toNat ≤ t
def lawC (I : IH) (L : LH) (R : RH) (d s f j k : Int) : Int := if I 17 d.toNat ≠ -1 ∧ I 17 d.toNat ≤ f then ansC I L R 5 s f k else if (I 17 d.toNat ≠ -1 ∧ I 17 d.toNat ≤ j) ∧ ansC I L R 6 s j k ≠ -3 then ansC I L R 6 s j k else ansC I L R (I 15 d.toNat) s f k
theorem lawC_sg {I J : IH} {L L1 : LH} {R : RH} {K : KH} {d s f j k : Int} (hR : RulesOK I R K) (h : Sg I J) (hl : Lg L L1) : lawC J L1 R d s f j k = lawC I L R d s f j k := by
  unfold lawC
  rw [ansC_sg hR h hl, ansC_sg hR h hl, ansC_sg hR h hl, h 17 _ (by unfold S0; omega), h 15 _ (by unfold S0; omega)]
theorem w_191_0 {sc : Nat × (Nat → Int)} {I : IH} {L : LH} {R : RH} {K : KH} {Q : AQ} {a0 a1 a2 a3 a4 : Int} (hL : Lay R K) (h : ((0 ≤ a0 ∧ a0 < 8)) ∧ ((I 17 a0.toNat ≠ -1 ∧ I 17 a0.toNat ≤ a2 → ((RulesOK I R K) ∧ (0 ≤ (5 : Int) ∧ (5 : Int) < 7)) ∧ (∀ (J1 : IH), (Sg I J1) → Q (some (aI (ansC I L R (5 : Int) a1 a2 a4))) J1 L R K)) ∧ (¬(I 17 a0.toNat ≠ -1 ∧ I 17 a0.toNat ≤ a2) → ((0 ≤ a0 ∧ a0 < 8)) ∧ ((I 17 a0.toNat ≠ -1 ∧ I 17 a0.toNat ≤ a3 → ((RulesOK I R K) ∧ (0 ≤ (6 : Int) ∧ (6 : Int) < 7)) ∧ (∀ (J3 : IH), (Sg I J3) → (((ansC I L R (6 : Int) a1 a3 a4) = (-3) → (((0 : Int) ≤ a0 ∧ a0 < (8 : Int))) ∧ ((RulesOK J3 R K) ∧ (0 ≤ (J3 15 a0.toNat) ∧ (J3 15 a0.toNat) < 7)) ∧ (∀ (J5 : IH), (Sg J3 J5) → Q (some (aI (ansC J3 L R (J3 15 a0.toNat) a1 a2 a4))) J5 L R K)) ∧ ((ansC I L R (6 : Int) a1 a3 a4) ≠ (-3) → Q (some (aI (ansC I L R (6 : Int) a1 a3 a4))) J3 L R K)))) ∧ (¬(I 17 a0.toNat ≠ -1 ∧ I 17 a0.toNat ≤ a3) → (((0 : Int) ≤ a0 ∧ a0 < (8 : Int))) ∧ ((RulesOK I R K) ∧ (0 ≤ (I 15 a0.toNat) ∧ (I 15 a0.toNat) < 7)) ∧ (∀ (J7 : IH), (Sg I J7) → Q (some (aI (ansC I L R (I 15 a0.toNat) a1 a2 a4))) J7 L R K)))))) : E sc 191 0 [some (aR (some 14)), some (aI a0), some (aI a1), some (aI a2), some (aI a3), some (aI a4), none] [] I L R K Q :=
  e_aload_n mb_191 dX1_lawOf_0 rfl (e_iload_n mb_191 dX1_lawOf_1 rfl (e_iload_n mb_191 dX1_lawOf_2 rfl (e_callV mb_191 dX1_lawOf_3 mf_191 mf_187 cs_4137 rfl rfl rfl rfl (lk_14 hL) rfl (v_187 hL h.1 (show E _ _ _ _ (_ :: _) _ _ _ _ _ from e_ifb_eq mb_191 dX1_lawOf_6 rfl ⟨fun q1 => e_aload_n mb_191 dX1_lawOf_9 rfl (e_getr mb_191 dX1_lawOf_10 mf_191.1 fs_4129 fk_1_0 (lk_14 hL) (lr_14_0 hL) (e_iconst mb_191 dX1_lawOf_13 cv_iconst_5 (e_iload_n mb_191 dX1_lawOf_14 rfl (e_iload_n mb_191 dX1_lawOf_15 rfl (e_iload mb_191 dX1_lawOf_16 rfl (e_callV mb_191 dX1_lawOf_18 mf_191 mf_238 cs_4145 rfl rfl rfl rfl (lk_2 hL) rfl (v_238 hL (h.2.1 q1).1.1 (h.2.1 q1).1.2 (fun J1 hp2 => (show E _ _ _ _ [aI (ansC I L R (5 : Int) a1 a2 a4)] _ _ _ _ _ from e_ireturn mb_191 dX1_lawOf_21 ri_191 ((h.2.1 q1).2 J1 hp2)))))))))), fun q1 => e_aload_n mb_191 dX1_lawOf_22 rfl (e_iload_n mb_191 dX1_lawOf_23 rfl (e_iload mb_191 dX1_lawOf_24 rfl (e_callV mb_191 dX1_lawOf_26 mf_191 mf_187 cs_4137 rfl rfl rfl rfl (lk_14 hL) rfl (v_187 hL (h.2.2 q1).1 (show E _ _ _ _ (_ :: _) _ _ _ _ _ from e_ifb_eq mb_191 dX1_lawOf_29 rfl ⟨fun q2 => e_aload_n mb_191 dX1_lawOf_32 rfl (e_getr mb_191 dX1_lawOf_33 mf_191.1 fs_4129 fk_1_0 (lk_14 hL) (lr_14_0 hL) (e_bipush mb_191 dX1_lawOf_36 cv_bipush_6 (e_iload_n mb_191 dX1_lawOf_38 rfl (e_iload mb_191 dX1_lawOf_39 rfl (e_iload mb_191 dX1_lawOf_41 rfl (e_callV mb_191 dX1_lawOf_43 mf_191 mf_238 cs_4145 rfl rfl rfl rfl (lk_2 hL) rfl (v_238 hL ((h.2.2 q1).2.1 q2).1.1 ((h.2.2 q1).2.1 q2).1.2 (fun J3 hp4 => (show E _ _ _ _ [aI (ansC I L R (6 : Int) a1 a3 a4)] _ _ _ _ _ from e_istore (l1 := [some (aR (some 14)), some (aI a0), some (aI a1), some (aI a2), some (aI a3), some (aI a4), some (aI (ansC I L R (6 : Int) a1 a3 a4))]) mb_191 dX1_lawOf_46 rfl (e_iload mb_191 dX1_lawOf_48 rfl (e_bipush mb_191 dX1_lawOf_50 cv_bipush_m3 (e_icmp mb_191 dX1_lawOf_52 rfl (fun q3 => e_aload_n mb_191 dX1_lawOf_58 rfl (e_getr mb_191 dX1_lawOf_59 mf_191.1 fs_4129 fk_1_0 (lk_14 hL) (lr_14_0 hL) (e_aload_n mb_191 dX1_lawOf_62 rfl (e_getr mb_191 dX1_lawOf_63 mf_191.1 fs_4107 fk_1_1 (lk_14 hL) (lr_14_1 hL) (e_iload_n mb_191 dX1_lawOf_66 rfl (e_ial mb_191 dX1_lawOf_67 (lk_15 hL) (ll_15 hL) ((((h.2.2 q1).2.1 q2).2 J3 hp4).1 (cb_eq.1.mp q3)).1 rfl (e_iload_n mb_191 dX1_lawOf_68 rfl (e_iload_n mb_191 dX1_lawOf_69 rfl (e_iload mb_191 dX1_lawOf_70 rfl (e_callV mb_191 dX1_lawOf_72 mf_191 mf_238 cs_4145 rfl rfl rfl rfl (lk_2 hL) rfl (v_238 hL ((((h.2.2 q1).2.1 q2).2 J3 hp4).1 (cb_eq.1.mp q3)).2.1.1 ((((h.2.2 q1).2.1 q2).2 J3 hp4).1 (cb_eq.1.mp q3)).2.1.2 (fun J5 hp6 => (show E _ _ _ _ [aI (ansC J3 L R (J3 15 a0.toNat) a1 a2 a4)] _ _ _ _ _ from e_ireturn mb_191 dX1_lawOf_75 ri_191 (((((h.2.2 q1).2.1 q2).2 J3 hp4).1 (cb_eq.1.mp q3)).2.2 J5 hp6)))))))))))))) (fun q3 => e_iload mb_191 dX1_lawOf_55 rfl (e_ireturn mb_191 dX1_lawOf_57 ri_191 ((((h.2.2 q1).2.1 q2).2 J3 hp4).2 (cb_eq.2.mp q3)))))))))))))))), fun q2 => e_aload_n mb_191 dX1_lawOf_58 rfl (e_getr mb_191 dX1_lawOf_59 mf_191.1 fs_4129 fk_1_0 (lk_14 hL) (lr_14_0 hL) (e_aload_n mb_191 dX1_lawOf_62 rfl (e_getr mb_191 dX1_lawOf_63 mf_191.1 fs_4107 fk_1_1 (lk_14 hL) (lr_14_1 hL) (e_iload_n mb_191 dX1_lawOf_66 rfl (e_ial mb_191 dX1_lawOf_67 (lk_15 hL) (ll_15 hL) ((h.2.2 q1).2.2 q2).1 rfl (e_iload_n mb_191 dX1_lawOf_68 rfl (e_iload_n mb_191 dX1_lawOf_69 rfl (e_iload mb_191 dX1_lawOf_70 rfl (e_callV mb_191 dX1_lawOf_72 mf_191 mf_238 cs_4145 rfl rfl rfl rfl (lk_2 hL) rfl (v_238 hL ((h.2.2 q1).2.2 q2).2.1.1 ((h.2.2 q1).2.2 q2).2.1.2 (fun J7 hp8 => (show E _ _ _ _ [aI (ansC I L R (I 15 a0.toNat) a1 a2 a4)] _ _ _ _ _ from e_ireturn mb_191 dX1_lawOf_75 ri_191 (((h.2.2 q1).2.2 q2).2.2 J7 hp8)))))))))))))⟩)))))⟩)))))
theorem v_191 {sc : Nat × (Nat → Int)} {I : IH} {L : LH} {R : RH} {K : KH} {Q : AQ} {a0 a1 a2 a3 a4 : Int} (hL : Lay R K) (hR : RulesOK I R K) (hd : 0 ≤ a0 ∧ a0 < 8) (hc : 0 ≤ I 15 a0.toNat ∧ I 15 a0.toNat ≤ 4) (h : ∀ J : IH, Sg I J → Q (some (aI (lawC I L R a0 a1 a2 a3 a4))) J L R K) : E sc 191 0 [some (aR (some 14)), some (aI a0), some (aI a1), some (aI a2), some (aI a3), some (aI a4), none] [] I L R K Q := by
  have key : ∀ (z : Int) (J : IH), Sg I J → z = lawC I L R a0 a1 a2 a3 a4 → Q (some (aI z)) J L R K := fun z J hs e => e ▸ h J hs
  have r15 : ∀ J, Sg I J → J 15 a0.toNat = I 15 a0.toNat := fun J hs => hs _ _ (by unfold S0; omega)
  exact w_191_0 hL ⟨(by first | omega | exact ⟨hR, by omega⟩ | exact ⟨rulesOK_sg hR hp4, by omega⟩ | exact ⟨rulesOK_sg hR hp4, by rw [r15 J3 hp4]; omega⟩), ⟨fun q1 => ⟨(by first | omega | exact ⟨hR, by omega⟩ | exact ⟨rulesOK_sg hR hp4, by omega⟩ | exact ⟨rulesOK_sg hR hp4, by rw [r15 J3 hp4]; omega⟩), fun J1 hp2 => (key _ _ (by repeat' (first | exact sg_r | assumption | refine sg_t ?_ (by assumption))) (by (try simp only [r15 J3 hp4]); (try rw [ansC_sg hR hp4 lg_r]); unfold lawC; (repeat' split) <;> first | rfl | omega))⟩, fun q1 => ⟨(by first | omega | exact ⟨hR, by omega⟩ | exact ⟨rulesOK_sg hR hp4, by omega⟩ | exact ⟨rulesOK_sg hR hp4, by rw [r15 J3 hp4]; omega⟩), ⟨fun q2 => ⟨(by first | omega | exact ⟨hR, by omega⟩ | exact ⟨rulesOK_sg hR hp4, by omega⟩ | exact ⟨rulesOK_sg hR hp4, by rw [r15 J3 hp4]; omega⟩), fun J3 hp4 => ⟨fun q3 => ⟨(by first | omega | exact ⟨hR, by omega⟩ | exact ⟨rulesOK_sg hR hp4, by omega⟩ | exact ⟨rulesOK_sg hR hp4, by rw [r15 J3 hp4]; omega⟩), ⟨(by first | omega | exact ⟨hR, by omega⟩ | exact ⟨rulesOK_sg hR hp4, by omega⟩ | exact ⟨rulesOK_sg hR hp4, by rw [r15 J3 hp4]; omega⟩), fun J5 hp6 => (key _ _ (by repeat' (first | exact sg_r | assumption | refine sg_t ?_ (by assumption))) (by (try simp only [r15 J3 hp4]); (try rw [ansC_sg hR hp4 lg_r]); unfold lawC; (repeat' split) <;> first | rfl | omega))⟩⟩, fun q3 => (key _ _ (by repeat' (first | exact sg_r | assumption | refine sg_t ?_ (by assumption))) (by (try simp only [r15 J3 hp4]); (try rw [ansC_sg hR hp4 lg_r]); unfold lawC; (repeat' split) <;> first | rfl | omega))⟩⟩, fun q2 => ⟨(by first | omega | exact ⟨hR, by omega⟩ | exact ⟨rulesOK_sg hR hp4, by omega⟩ | exact ⟨rulesOK_sg hR hp4, by rw [r15 J3 hp4]; omega⟩), ⟨(by first | omega | exact ⟨hR, by omega⟩ | exact ⟨rulesOK_sg hR hp4, by omega⟩ | exact ⟨rulesOK_sg hR hp4, by rw [r15 J3 hp4]; omega⟩), fun J7 hp8 => (key _ _ (by repeat' (first | exact sg_r | assumption | refine sg_t ?_ (by assumption))) (by (try simp only [r15 J3 hp4]); (try rw [ansC_sg hR hp4 lg_r]); unfold lawC; (repeat' split) <;> first | rfl | omega))⟩⟩⟩⟩⟩⟩
/-! the reference's -/
def ansM (I : IH) (b lo hi s a k : Int) : Int := tmV I b lo hi s a k (-1) (I 77 7).toNat % 256 - 3
theorem modOK_sg {I J : IH} {sw : Int} (h : ModOK I sw) (hs : Sg I J) : ModOK J sw := h.fr (hs _ _ (by unfold S0; omega)) (fun a j q1 q2 => hs _ _ (by unfold S0; omega))
theorem ansM_sg {I J : IH} {b lo hi s a k : Int} (hs : Sg I J) : ansM J b lo hi s a k = ansM I b lo hi s a k := by
  unfold ansM
  rw [tmV_fr (fun a j q1 q2 => hs _ _ (by unfold S0; omega)), hs 77 7 (by unfold S0; omega)]
theorem v_92s {sc : Nat × (Nat → Int)} {I : IH} {L : LH} {R : RH} {K : KH} {Q : AQ} {a0 a1 a2 a3 a4 a5 : Int} (hL : Lay R K) (p0 : ModOK I (-1)) (p1 : 0 ≤ a3 ∧ a3 < 1536) (p2 : I 77 57 = -1) (h : ∀ J : IH, Sg I J → Q (some (aI (ansM I a0 a1 a2 a3 a4 a5))) J L R K) : E sc 92 0 [some (aR (some 77)), some (aI a0), some (aI a1), some (aI a2), some (aI a3), some (aI a4), some (aI a5), none, none, none] [] I L R K Q := by
  refine v_92 hL (by rw [p2]; exact p0) p1 ?_
  rw [p2]
  exact h _ (sg_58 sg_r)
theorem v_93s {sc : Nat × (Nat → Int)} {I : IH} {L : LH} {R : RH} {K : KH} {Q : AQ} {a0 a1 a2 a3 : Int} (hL : Lay R K) (p0 : ModOK I (-1)) (p1 : 0 ≤ a1 ∧ a1 < 1536) (p2 : I 77 57 = -1) (h : ∀ J : IH, Sg I J → Q (some (aI (ansM I a0 (if a0 = 5 then 4 else 1) (if a0 = 5 then 4 else 3) a1 a2 a3))) J L R K) : E sc 93 0 [some (aR (some 77)), some (aI a0), some (aI a1), some (aI a2), some (aI a3)] [] I L R K Q := by
  refine v_93 hL (by rw [p2]; exact p0) p1 ?_
  rw [p2]
  exact h _ (sg_58 sg_r)
def lawM (I : IH) (d s f j k : Int) : Int := if I 95 d.toNat ≠ -1 ∧ I 95 d.toNat ≤ j then (if I 95 d.toNat ≠ -1 ∧ I 95 d.toNat ≤ f then ansM I 5 4 4 s f k else if ansM I 5 5 5 s j k ≠ -3 then ansM I 5 5 5 s j k else ansM I (I 93 d.toNat) 1 3 s f k) else ansM I (I 93 d.toNat) 1 3 s f k
theorem lawM_sg {I J : IH} {d s f j k : Int} (h : Sg I J) : lawM J d s f j k = lawM I d s f j k := by
  unfold lawM
  rw [ansM_sg h, ansM_sg h, ansM_sg h, h 95 _ (by unfold S0; omega), h 93 _ (by unfold S0; omega)]
theorem w_100_0 {sc : Nat × (Nat → Int)} {I : IH} {L : LH} {R : RH} {K : KH} {Q : AQ} {a0 a1 a2 a3 a4 : Int} (hL : Lay R K) (h : ((0 ≤ a0 ∧ a0 < 8)) ∧ ((I 95 a0.toNat ≠ -1 ∧ I 95 a0.toNat ≤ a3 → ((0 ≤ a0 ∧ a0 < 8)) ∧ ((I 95 a0.toNat ≠ -1 ∧ I 95 a0.toNat ≤ a2 → ((ModOK I (-1)) ∧ (0 ≤ a1 ∧ a1 < 1536) ∧ (I 77 57 = -1)) ∧ (∀ (J1 : IH), (Sg I J1) → Q (some (aI (ansM I (5 : Int) (if (5 : Int) = 5 then 4 else 1) (if (5 : Int) = 5 then 4 else 3) a1 a2 a4))) J1 L R K)) ∧ (¬(I 95 a0.toNat ≠ -1 ∧ I 95 a0.toNat ≤ a2) → ((ModOK I (-1)) ∧ (0 ≤ a1 ∧ a1 < 1536) ∧ (I 77 57 = -1)) ∧ (∀ (J3 : IH), (Sg I J3) → (((ansM I (5 : Int) (5 : Int) (5 : Int) a1 a3 a4) ≠ (-3) → Q (some (aI (ansM I (5 : Int) (5 : Int) (5 : Int) a1 a3 a4))) J3 L R K) ∧ ((ansM I (5 : Int) (5 : Int) (5 : Int) a1 a3 a4) = (-3) → (((0 : Int) ≤ a0 ∧ a0 < (8 : Int))) ∧ ((ModOK J3 (-1)) ∧ (0 ≤ a1 ∧ a1 < 1536) ∧ (J3 77 57 = -1)) ∧ (∀ (J5 : IH), (Sg J3 J5) → Q (some (aI (ansM J3 (J3 93 a0.toNat) (if (J3 93 a0.toNat) = 5 then 4 else 1) (if (J3 93 a0.toNat) = 5 then 4 else 3) a1 a2 a4))) J5 L R K))))))) ∧ (¬(I 95 a0.toNat ≠ -1 ∧ I 95 a0.toNat ≤ a3) → (((0 : Int) ≤ a0 ∧ a0 < (8 : Int))) ∧ ((ModOK I (-1)) ∧ (0 ≤ a1 ∧ a1 < 1536) ∧ (I 77 57 = -1)) ∧ (∀ (J7 : IH), (Sg I J7) → Q (some (aI (ansM I (I 93 a0.toNat) (if (I 93 a0.toNat) = 5 then 4 else 1) (if (I 93 a0.toNat) = 5 then 4 else 3) a1 a2 a4))) J7 L R K)))) : E sc 100 0 [some (aR (some 77)), some (aI a0), some (aI a1), some (aI a2), some (aI a3), some (aI a4), none] [] I L R K Q :=
  e_aload_n mb_100 dX12_lawOf_0 rfl (e_iload_n mb_100 dX12_lawOf_1 rfl (e_iload mb_100 dX12_lawOf_2 rfl (e_callV mb_100 dX12_lawOf_4 mf_100 mf_99 cs_49425 rfl rfl rfl rfl (lk_77 hL) rfl (v_99 hL h.1 (show E _ _ _ _ (_ :: _) _ _ _ _ _ from e_ifb_ne mb_100 dX12_lawOf_7 rfl ⟨fun q1 => e_aload_n mb_100 dX12_lawOf_25 rfl (e_iload_n mb_100 dX12_lawOf_26 rfl (e_iload_n mb_100 dX12_lawOf_27 rfl (e_callV mb_100 dX12_lawOf_28 mf_100 mf_99 cs_49425 rfl rfl rfl rfl (lk_77 hL) rfl (v_99 hL (h.2.1 q1).1 (show E _ _ _ _ (_ :: _) _ _ _ _ _ from e_ifb_eq mb_100 dX12_lawOf_31 rfl ⟨fun q2 => e_aload_n mb_100 dX12_lawOf_34 rfl (e_iconst mb_100 dX12_lawOf_35 cv_iconst_5 (e_iload_n mb_100 dX12_lawOf_36 rfl (e_iload_n mb_100 dX12_lawOf_37 rfl (e_iload mb_100 dX12_lawOf_38 rfl (e_callV mb_100 dX12_lawOf_40 mf_100 mf_93 cs_49418 rfl rfl rfl rfl (lk_77 hL) rfl (v_93s hL ((h.2.1 q1).2.1 q2).1.1 ((h.2.1 q1).2.1 q2).1.2.1 ((h.2.1 q1).2.1 q2).1.2.2 (fun J1 hp2 => (show E _ _ _ _ [aI (ansM I (5 : Int) (if (5 : Int) = 5 then 4 else 1) (if (5 : Int) = 5 then 4 else 3) a1 a2 a4)] _ _ _ _ _ from e_ireturn mb_100 dX12_lawOf_43 ri_100 (((h.2.1 q1).2.1 q2).2 J1 hp2))))))))), fun q2 => e_aload_n mb_100 dX12_lawOf_44 rfl (e_iconst mb_100 dX12_lawOf_45 cv_iconst_5 (e_iconst mb_100 dX12_lawOf_46 cv_iconst_5 (e_iconst mb_100 dX12_lawOf_47 cv_iconst_5 (e_iload_n mb_100 dX12_lawOf_48 rfl (e_iload mb_100 dX12_lawOf_49 rfl (e_iload mb_100 dX12_lawOf_51 rfl (e_callV mb_100 dX12_lawOf_53 mf_100 mf_92 cs_49410 rfl rfl rfl rfl (lk_77 hL) rfl (v_92s hL ((h.2.1 q1).2.2 q2).1.1 ((h.2.1 q1).2.2 q2).1.2.1 ((h.2.1 q1).2.2 q2).1.2.2 (fun J3 hp4 => (show E _ _ _ _ [aI (ansM I (5 : Int) (5 : Int) (5 : Int) a1 a3 a4)] _ _ _ _ _ from e_istore (l1 := [some (aR (some 77)), some (aI a0), some (aI a1), some (aI a2), some (aI a3), some (aI a4), some (aI (ansM I (5 : Int) (5 : Int) (5 : Int) a1 a3 a4))]) mb_100 dX12_lawOf_56 rfl (e_iload mb_100 dX12_lawOf_58 rfl (e_bipush mb_100 dX12_lawOf_60 cv_bipush_m3 (e_icmp mb_100 dX12_lawOf_62 rfl (fun q3 => e_iload mb_100 dX12_lawOf_82 rfl (e_ireturn mb_100 dX12_lawOf_84 ri_100 ((((h.2.1 q1).2.2 q2).2 J3 hp4).1 (cb_ne.1.mp q3)))) (fun q3 => e_aload_n mb_100 dX12_lawOf_65 rfl (e_aload_n mb_100 dX12_lawOf_66 rfl (e_getr mb_100 dX12_lawOf_67 mf_100.1 fs_49208 fk_12_19 (lk_77 hL) (lr_77_19 hL) (e_iload_n mb_100 dX12_lawOf_70 rfl (e_ial mb_100 dX12_lawOf_71 (lk_93 hL) (ll_93 hL) ((((h.2.1 q1).2.2 q2).2 J3 hp4).2 (cb_ne.2.mp q3)).1 rfl (e_iload_n mb_100 dX12_lawOf_72 rfl (e_iload_n mb_100 dX12_lawOf_73 rfl (e_iload mb_100 dX12_lawOf_74 rfl (e_callV mb_100 dX12_lawOf_76 mf_100 mf_93 cs_49418 rfl rfl rfl rfl (lk_77 hL) rfl (v_93s hL ((((h.2.1 q1).2.2 q2).2 J3 hp4).2 (cb_ne.2.mp q3)).2.1.1 ((((h.2.1 q1).2.2 q2).2 J3 hp4).2 (cb_ne.2.mp q3)).2.1.2.1 ((((h.2.1 q1).2.2 q2).2 J3 hp4).2 (cb_ne.2.mp q3)).2.1.2.2 (fun J5 hp6 => (show E _ _ _ _ [aI (ansM J3 (J3 93 a0.toNat) (if (J3 93 a0.toNat) = 5 then 4 else 1) (if (J3 93 a0.toNat) = 5 then 4 else 3) a1 a2 a4)] _ _ _ _ _ from e_goto mb_100 dX12_lawOf_79 rfl (e_ireturn mb_100 dX12_lawOf_84 ri_100 (((((h.2.1 q1).2.2 q2).2 J3 hp4).2 (cb_ne.2.mp q3)).2.2 J5 hp6)))))))))))))))))))))))))))⟩))))), fun q1 => e_aload_n mb_100 dX12_lawOf_10 rfl (e_aload_n mb_100 dX12_lawOf_11 rfl (e_getr mb_100 dX12_lawOf_12 mf_100.1 fs_49208 fk_12_19 (lk_77 hL) (lr_77_19 hL) (e_iload_n mb_100 dX12_lawOf_15 rfl (e_ial mb_100 dX12_lawOf_16 (lk_93 hL) (ll_93 hL) (h.2.2 q1).1 rfl (e_iload_n mb_100 dX12_lawOf_17 rfl (e_iload_n mb_100 dX12_lawOf_18 rfl (e_iload mb_100 dX12_lawOf_19 rfl (e_callV mb_100 dX12_lawOf_21 mf_100 mf_93 cs_49418 rfl rfl rfl rfl (lk_77 hL) rfl (v_93s hL (h.2.2 q1).2.1.1 (h.2.2 q1).2.1.2.1 (h.2.2 q1).2.1.2.2 (fun J7 hp8 => (show E _ _ _ _ [aI (ansM I (I 93 a0.toNat) (if (I 93 a0.toNat) = 5 then 4 else 1) (if (I 93 a0.toNat) = 5 then 4 else 3) a1 a2 a4)] _ _ _ _ _ from e_ireturn mb_100 dX12_lawOf_24 ri_100 ((h.2.2 q1).2.2 J7 hp8))))))))))))⟩)))))
theorem v_100 {sc : Nat × (Nat → Int)} {I : IH} {L : LH} {R : RH} {K : KH} {Q : AQ} {a0 a1 a2 a3 a4 : Int} (hL : Lay R K) (p0 : ModOK I (-1)) (p1 : 0 ≤ a1 ∧ a1 < 1536) (p2 : I 77 57 = -1) (hd : 0 ≤ a0 ∧ a0 < 8) (hc : 0 ≤ I 93 a0.toNat ∧ I 93 a0.toNat ≤ 4) (h : ∀ J : IH, Sg I J → Q (some (aI (lawM I a0 a1 a2 a3 a4))) J L R K) : E sc 100 0 [some (aR (some 77)), some (aI a0), some (aI a1), some (aI a2), some (aI a3), some (aI a4), none] [] I L R K Q := by
  have key : ∀ (z : Int) (J : IH), Sg I J → z = lawM I a0 a1 a2 a3 a4 → Q (some (aI z)) J L R K := fun z J hs e => e ▸ h J hs
  have r93 : ∀ J, Sg I J → J 93 a0.toNat = I 93 a0.toNat := fun J hs => hs _ _ (by unfold S0; omega)
  have r57 : ∀ J, Sg I J → J 77 57 = -1 := fun J hs => (hs _ _ (by unfold S0; omega)).trans p2
  exact w_100_0 hL ⟨(by first | omega | exact ⟨p0, p1, p2⟩ | exact ⟨modOK_sg p0 hp4, p1, r57 J3 hp4⟩), ⟨fun q1 => ⟨(by first | omega | exact ⟨p0, p1, p2⟩ | exact ⟨modOK_sg p0 hp4, p1, r57 J3 hp4⟩), ⟨fun q2 => ⟨(by first | omega | exact ⟨p0, p1, p2⟩ | exact ⟨modOK_sg p0 hp4, p1, r57 J3 hp4⟩), fun J1 hp2 => (key _ _ (by repeat' (first | exact sg_r | assumption | refine sg_t ?_ (by assumption))) (by (try simp only [r93 J3 hp4]); (try rw [ansM_sg hp4]); unfold lawM; (try rw [if_neg (show ¬ (I 93 a0.toNat = 5) by omega), if_neg (show ¬ (I 93 a0.toNat = 5) by omega)]); (repeat' split) <;> first | rfl | omega))⟩, fun q2 => ⟨(by first | omega | exact ⟨p0, p1, p2⟩ | exact ⟨modOK_sg p0 hp4, p1, r57 J3 hp4⟩), fun J3 hp4 => ⟨fun q3 => (key _ _ (by repeat' (first | exact sg_r | assumption | refine sg_t ?_ (by assumption))) (by (try simp only [r93 J3 hp4]); (try rw [ansM_sg hp4]); unfold lawM; (try rw [if_neg (show ¬ (I 93 a0.toNat = 5) by omega), if_neg (show ¬ (I 93 a0.toNat = 5) by omega)]); (repeat' split) <;> first | rfl | omega)), fun q3 => ⟨(by first | omega | exact ⟨p0, p1, p2⟩ | exact ⟨modOK_sg p0 hp4, p1, r57 J3 hp4⟩), ⟨(by first | omega | exact ⟨p0, p1, p2⟩ | exact ⟨modOK_sg p0 hp4, p1, r57 J3 hp4⟩), fun J5 hp6 => (key _ _ (by repeat' (first | exact sg_r | assumption | refine sg_t ?_ (by assumption))) (by (try simp only [r93 J3 hp4]); (try rw [ansM_sg hp4]); unfold lawM; (try rw [if_neg (show ¬ (I 93 a0.toNat = 5) by omega), if_neg (show ¬ (I 93 a0.toNat = 5) by omega)]); (repeat' split) <;> first | rfl | omega))⟩⟩⟩⟩⟩⟩, fun q1 => ⟨(by first | omega | exact ⟨p0, p1, p2⟩ | exact ⟨modOK_sg p0 hp4, p1, r57 J3 hp4⟩), ⟨(by first | omega | exact ⟨p0, p1, p2⟩ | exact ⟨modOK_sg p0 hp4, p1, r57 J3 hp4⟩), fun J7 hp8 => (key _ _ (by repeat' (first | exact sg_r | assumption | refine sg_t ?_ (by assumption))) (by (try simp only [r93 J3 hp4]); (try rw [ansM_sg hp4]); unfold lawM; (try rw [if_neg (show ¬ (I 93 a0.toNat = 5) by omega), if_neg (show ¬ (I 93 a0.toNat = 5) by omega)]); (repeat' split) <;> first | rfl | omega))⟩⟩⟩⟩
/-! class and reference answer alike -/
theorem top_eq {N : Nat} {I : IH} {L : LH} {R : RH} {K : KH} (hI : Inv N I L R K) {g b lo hi s a k : Int} (hs : 0 ≤ s ∧ s < 1536) (hg : (0 ≤ g ∧ g ≤ 4 ∧ b = g ∧ lo = 1 ∧ hi = 3) ∨ (g = 5 ∧ b = 5 ∧ lo = 4 ∧ hi = 4) ∨ (g = 6 ∧ b = 5 ∧ lo = 5 ∧ hi = 5)) : ansT I L R g s a k (-1) = tmV I b lo hi s a k (-1) (I 77 7).toNat := by
  obtain ⟨h1, h2, h3, h4, -⟩ := iR hI
  unfold ansT twV tmV
  rw [h1]
  refine topF_congr _ (fun i hii => ?_)
  obtain ⟨g1, g2⟩ := h4 i (by omega)
  obtain ⟨k0, a1, a2, a3, a4, a5, a6, a7, a8, a9, a10, a11⟩ := g2
  have e1 : ¬ ((i : Int) = -1) := by omega
  have hx := a11.2.2 s.toNat (by omega)
  rw [show ((s.toNat : Nat) : Int) = s by omega] at hx
  have eF : inFo I R (rf R 3 i) a k ↔ inFoM I (i : Int) a k := by
    have ef : sumTo (fellF I R (rf R 3 i) k) (I 91 i).toNat = sumTo (fellM I (i : Int) k) (I 91 i).toNat := by
      refine sumTo_congr _ (fun j hj => ?_)
      unfold fellF fellM
      rw [rf_eq k0.2.2.1, Int.toNat_natCast, a10 j (by omega)]
    unfold inFo inFoM
    rw [Int.toNat_natCast, a1.1, a4.1, a5.1, a6.1, a7.1, a8.1, ef]
    refine and_congr_right' (and_congr_right' (and_congr_left' ?_))
    by_cases q : I 88 i = -1
    · constructor
      · intro _ q2; exact absurd q q2.1
      · intro _ q2; omega
    · rw [a9 q]
      constructor
      · intro q1 q2; exact q1 ⟨by omega, q2.2.1, q2.2.2⟩
      · intro q1 q2; exact q1 ⟨q, q2.2.1, q2.2.2⟩
  have eG : grp I (rf R 3 i) = g ↔ I 84 i = b ∧ (lo ≤ I 83 i ∧ I 83 i ≤ hi) := by
    unfold grp
    rw [a1.1, a2.1]
    split <;> omega
  have eS : fitP L R (rf R (rf R 3 i) 0) s ↔ fitsM I i s = true := by
    unfold fitP
    rw [rf_eq a11.1.2.2.1, rf_eq a11.1.2.2.2.2.1, ← hx]
    exact ⟨fun q => q.2.2, fun q => ⟨hs.1, hs.2, q⟩⟩
  rw [if_neg e1]
  unfold twP gP tmP
  rw [if_neg e1, eF, eG, eS]
  refine ⟨⟨fun q => ⟨q.1.2.1, q.1.2.2, q.1.1, q.2.2⟩, fun q => ⟨⟨q.2.2.1, q.1, q.2.1⟩, by omega, q.2.2.2⟩⟩, fun _ => ⟨a3.1, a11.2.1.1⟩⟩
theorem ans_eq {N : Nat} {I : IH} {L : LH} {R : RH} {K : KH} (hI : Inv N I L R K) {b s a k : Int} (hs : 0 ≤ s ∧ s < 1536) (hb : 0 ≤ b ∧ b ≤ 5) : ansC I L R b s a k = ansM I b (if b = 5 then 4 else 1) (if b = 5 then 4 else 3) s a k := by
  unfold ansC ansM
  rw [top_eq hI hs]
  split <;> omega
theorem law_eq {N : Nat} {I : IH} {L : LH} {R : RH} {K : KH} (hI : Inv N I L R K) {d s f j k : Int} (hs : 0 ≤ s ∧ s < 1536) (hd : 0 ≤ d ∧ d < I 77 18) (hf : f ≤ j) : lawC I L R d s f j k = lawM I d s f j k := by
  have hD := iD hI
  unfold InvD at hD
  have f1 := hD.2.2.2.1 d.toNat (by omega)
  have f2 := hD.2.2.2.2 d.toNat (by omega)
  have e5 := ans_eq hI (b := 5) (a := f) (k := k) hs (by omega)
  have ec := ans_eq hI (b := I 93 d.toNat) (a := f) (k := k) hs (by omega)
  rw [if_pos rfl, if_pos rfl] at e5
  rw [if_neg (by omega), if_neg (by omega)] at ec
  have e6 : ansC I L R 6 s j k = ansM I 5 5 5 s j k := by
    unfold ansC ansM
    rw [top_eq hI hs (b := 5) (lo := 5) (hi := 5) (by omega)]
  unfold lawC lawM
  rw [f1.1, f2.1, e5, e6, ec]
  by_cases c1 : I 95 d.toNat ≠ -1 ∧ I 95 d.toNat ≤ j
  · rw [if_pos c1]
    by_cases c2 : I 95 d.toNat ≠ -1 ∧ I 95 d.toNat ≤ f
    · rw [if_pos c2, if_pos c2]
    · rw [if_neg c2, if_neg c2]
      by_cases c3 : ansM I 5 5 5 s j k ≠ -3
      · rw [if_pos ⟨c1, c3⟩, if_pos c3]
      · rw [if_neg (fun q => c3 q.2), if_neg c3]
  · rw [if_neg c1, if_neg (by omega), if_neg (fun q => c1 q.1)]
