/-! texts: the END -/
theorem dgt_b {b : Nat → Int} {hi : Int} {p : Nat} : -1 ≤ (dgt b hi p).2 ∧ ((dgt b hi p).2 ≤ hi - 48 ∨ (dgt b hi p).2 = -1) ∧ ((dgt b hi p).2 < 0 → (dgt b hi p).1 = p ∧ ¬ (48 ≤ b p ∧ b p ≤ hi)) ∧ (0 ≤ (dgt b hi p).2 → (dgt b hi p).1 = p + 1 ∧ (48 ≤ b p ∧ b p ≤ hi) ∧ (dgt b hi p).2 = b p - 48) := by
  unfold dgt
  by_cases q : 48 ≤ b p ∧ b p ≤ hi
  · rw [if_pos q]
    exact ⟨by show -1 ≤ b p - 48; omega, .inl (by show b p - 48 ≤ hi - 48; omega), fun g => by have g : b p - 48 < 0 := g; omega, fun _ => ⟨rfl, q, rfl⟩⟩
  · rw [if_neg q]
    exact ⟨Int.le_refl _, .inr rfl, fun _ => ⟨rfl, q⟩, fun g => by have g : (0 : Int) ≤ -1 := g; omega⟩
def endS (b : Nat → Int) (p : Nat) : Nat × Bool × Int :=
  if b p = 104 then ((wd b (strF 8) p).1, (wd b (strF 8) p).2, 1)
  else if b p = 111 then
    if (wd b (strF 9) p).2 = true then
      if 0 ≤ (dgt b 57 (wd b (strF 9) p).1).2 then ((dgt b 57 (dgt b 57 (wd b (strF 9) p).1).1).1, true, 100 + (if 0 ≤ (dgt b 57 (dgt b 57 (wd b (strF 9) p).1).1).2 then (dgt b 57 (wd b (strF 9) p).1).2 * 10 + (dgt b 57 (dgt b 57 (wd b (strF 9) p).1).1).2 else (dgt b 57 (wd b (strF 9) p).1).2))
      else ((wd b (strF 9) p).1, false, 0)
    else ((wd b (strF 9) p).1, false, 0)
  else if b p = 116 then
    if (wd b (strF 10) p).2 = true then ((dgt b 51 (wd b (strF 10) p).1).1, decide (0 ≤ (dgt b 51 (wd b (strF 10) p).1).2), 200 + (dgt b 51 (wd b (strF 10) p).1).2)
    else ((wd b (strF 10) p).1, false, 0)
  else if b p = 118 then ((wd b (strF 7) p).1, (wd b (strF 7) p).2, 0)
  else (p, false, 0)
theorem endS_e {b : Nat → Int} {p : Nat} (h : (endS b p).2.1 = true) : (endS b p).2.2 = 0 ∨ (endS b p).2.2 = 1 ∨ (100 ≤ (endS b p).2.2 ∧ (endS b p).2.2 ≤ 203) := by
  unfold endS at h ⊢
  split
  · exact .inr (.inl rfl)
  · split
    · rename_i q1 q2
      rw [if_neg q1, if_pos q2] at h
      split
      · rename_i q3
        rw [if_pos q3] at h
        split
        · rename_i q4
          have b1 := dgt_b (b := b) (hi := 57) (p := (wd b (strF 9) p).1)
          have b2 := dgt_b (b := b) (hi := 57) (p := (dgt b 57 (wd b (strF 9) p).1).1)
          refine .inr (.inr ?_)
          dsimp only
          by_cases q5 : 0 ≤ (dgt b 57 (dgt b 57 (wd b (strF 9) p).1).1).2
          · rw [if_pos q5]; omega
          · rw [if_neg q5]; omega
        · rename_i q4
          rw [if_neg q4] at h
          cases h
      · rename_i q3
        rw [if_neg q3] at h
        cases h
    · split
      · rename_i q1 q2 q3
        rw [if_neg q1, if_neg q2, if_pos q3] at h
        split
        · rename_i q4
          rw [if_pos q4] at h
          have b1 := dgt_b (b := b) (hi := 51) (p := (wd b (strF 10) p).1)
          have h : decide (0 ≤ (dgt b 51 (wd b (strF 10) p).1).2) = true := h
          have h := of_decide_eq_true h
          refine .inr (.inr ?_)
          show 100 ≤ 200 + (dgt b 51 (wd b (strF 10) p).1).2 ∧ 200 + (dgt b 51 (wd b (strF 10) p).1).2 ≤ 203
          omega
        · rename_i q4
          rw [if_neg q4] at h
          cases h
      · split
        · exact .inl rfl
        · exact .inl rfl
def FrE (d : Nat) (I J : IH) : Prop := ∀ a j, ¬ (a = d ∧ (j = 7 ∨ j = 8)) → J a j = I a j
theorem fre_a {d : Nat} {I J : IH} (h : FrA d I J) : FrE d I J := fun a j q => h a j (fun g => q ⟨g.1, .inl g.2⟩)
theorem fre_t {d : Nat} {I J J2 : IH} (h : FrE d I J) (h2 : FrE d J J2) : FrE d I J2 := fun a j q => (h2 a j q).trans (h a j q)
theorem fre_8 {d : Nat} {I J : IH} {v : Int} (h : FrE d I J) : FrE d I (setF J d 8 v) := fun a j q => by rw [setF_n (fun g => q ⟨g.1, .inr g.2⟩)]; exact h a j q
theorem bJ_fre {d : Nat} {I J : IH} (hd : d ≠ 1) (h : FrE d I J) : bJ J d = bJ I d := by
  funext p
  unfold bJ
  rw [h d 6 (by omega), h 1 p (by omega)]
theorem at_8 {d : Nat} {J : IH} {v : Int} (h : AtOK J d) : AtOK (setF J d 8 v) d := by
  obtain ⟨a1, a2, a3⟩ := h
  refine ⟨?_, ?_, ?_⟩
  · rw [setF_n (by omega)]; exact a1
  · rw [setF_n (by omega), setF_n (by omega)]; exact a2
  · rw [setF_n (by omega)]; exact a3
theorem w_282_0 {sc : Nat × (Nat → Int)} {I : IH} {L : LH} {R : RH} {K : KH} {Q : AQ} {d : Nat} (hL : Lay R K) (h : (K.1 d = 9 ∧ (DraftAt R K d ∧ AtOK I d)) ∧ (((bJ I d (I d 7).toNat) = 104 → (K.1 d = 9) ∧ ((K.1 d = 9) ∧ (DraftAt R K d ∧ AtOK (setF I d 8 1) d ∧ 1 ≤ 8 ∧ 8 < 17)) ∧ (∀ (J1 : IH), (FrA d (setF I d 8 1) J1) → (J1 d 7 = ((wd (bJ (setF I d 8 1) d) (strF 8) ((setF I d 8 1) d 7).toNat).1 : Int)) → (AtOK J1 d) → Q (some (aI (b2i ((wd (bJ (setF I d 8 1) d) (strF 8) ((setF I d 8 1) d 7).toNat).2 = true)))) J1 L R K)) ∧ ((bJ I d (I d 7).toNat) = 111 → ((K.1 d = 9) ∧ (DraftAt R K d ∧ AtOK I d ∧ 1 ≤ 9 ∧ 9 < 17)) ∧ (∀ (J5 : IH), (FrA d I J5) → (J5 d 7 = ((wd (bJ I d) (strF 9) (I d 7).toNat).1 : Int)) → (AtOK J5 d) → (((wd (bJ I d) (strF 9) (I d 7).toNat).2 = true → (K.1 d = 9) ∧ ((K.1 d = 9) ∧ (DraftAt R K d ∧ AtOK J5 d ∧ 57 < (1000 : Int))) ∧ (∀ (J9 : IH), (FrA d J5 J9) → (J9 d 7 = ((dgt (bJ J5 d) 57 (J5 d 7).toNat).1 : Int)) → (AtOK J9 d) → ((0 ≤ ((dgt (bJ J5 d) 57 (J5 d 7).toNat).2) → ((K.1 d = 9) ∧ (DraftAt R K d ∧ AtOK J9 d ∧ 57 < (1000 : Int))) ∧ (∀ (J13 : IH), (FrA d J9 J13) → (J13 d 7 = ((dgt (bJ J9 d) 57 (J9 d 7).toNat).1 : Int)) → (AtOK J13 d) → ((0 ≤ ((dgt (bJ J9 d) 57 (J9 d 7).toNat).2) → ((-2147483648 : Int) ≤ ((dgt (bJ J5 d) 57 (J5 d 7).toNat).2) * 10 ∧ ((dgt (bJ J5 d) 57 (J5 d 7).toNat).2) * 10 < (2147483648 : Int)) ∧ ((-2147483648 : Int) ≤ (((dgt (bJ J5 d) 57 (J5 d 7).toNat).2) * 10) + ((dgt (bJ J9 d) 57 (J9 d 7).toNat).2) ∧ (((dgt (bJ J5 d) 57 (J5 d 7).toNat).2) * 10) + ((dgt (bJ J9 d) 57 (J9 d 7).toNat).2) < (2147483648 : Int)) ∧ ((-2147483648 : Int) ≤ 100 + ((((dgt (bJ J5 d) 57 (J5 d 7).toNat).2) * 10) + ((dgt (bJ J9 d) 57 (J9 d 7).toNat).2)) ∧ 100 + ((((dgt (bJ J5 d) 57 (J5 d 7).toNat).2) * 10) + ((dgt (bJ J9 d) 57 (J9 d 7).toNat).2)) < (2147483648 : Int)) ∧ (K.1 d = 9) ∧ Q (some (aI 1)) (setF J13 d 8 (100 + ((((dgt (bJ J5 d) 57 (J5 d 7).toNat).2) * 10) + ((dgt (bJ J9 d) 57 (J9 d 7).toNat).2)))) L R K) ∧ (((dgt (bJ J9 d) 57 (J9 d 7).toNat).2) < 0 → ((-2147483648 : Int) ≤ 100 + ((dgt (bJ J5 d) 57 (J5 d 7).toNat).2) ∧ 100 + ((dgt (bJ J5 d) 57 (J5 d 7).toNat).2) < (2147483648 : Int)) ∧ (K.1 d = 9) ∧ Q (some (aI 1)) (setF J13 d 8 (100 + ((dgt (bJ J5 d) 57 (J5 d 7).toNat).2))) L R K)))) ∧ (((dgt (bJ J5 d) 57 (J5 d 7).toNat).2) < 0 → Q (some (aI 0)) J9 L R K)))) ∧ (¬((wd (bJ I d) (strF 9) (I d 7).toNat).2 = true) → Q (some (aI 0)) J5 L R K)))) ∧ ((bJ I d (I d 7).toNat) = 116 → ((K.1 d = 9) ∧ (DraftAt R K d ∧ AtOK I d ∧ 1 ≤ 10 ∧ 10 < 17)) ∧ (∀ (J17 : IH), (FrA d I J17) → (J17 d 7 = ((wd (bJ I d) (strF 10) (I d 7).toNat).1 : Int)) → (AtOK J17 d) → (((wd (bJ I d) (strF 10) (I d 7).toNat).2 = true → (K.1 d = 9) ∧ ((K.1 d = 9) ∧ (DraftAt R K d ∧ AtOK J17 d ∧ 51 < (1000 : Int))) ∧ (∀ (J21 : IH), (FrA d J17 J21) → (J21 d 7 = ((dgt (bJ J17 d) 51 (J17 d 7).toNat).1 : Int)) → (AtOK J21 d) → ((-2147483648 : Int) ≤ 200 + ((dgt (bJ J17 d) 51 (J17 d 7).toNat).2) ∧ 200 + ((dgt (bJ J17 d) 51 (J17 d 7).toNat).2) < (2147483648 : Int)) ∧ (K.1 d = 9) ∧ ((((dgt (bJ J17 d) 51 (J17 d 7).toNat).2) < 0 → Q (some (aI 0)) (setF J21 d 8 (200 + ((dgt (bJ J17 d) 51 (J17 d 7).toNat).2))) L R K) ∧ (0 ≤ ((dgt (bJ J17 d) 51 (J17 d 7).toNat).2) → Q (some (aI 1)) (setF J21 d 8 (200 + ((dgt (bJ J17 d) 51 (J17 d 7).toNat).2))) L R K)))) ∧ (¬((wd (bJ I d) (strF 10) (I d 7).toNat).2 = true) → Q (some (aI 0)) J17 L R K)))) ∧ ((bJ I d (I d 7).toNat) = 118 → (K.1 d = 9) ∧ ((K.1 d = 9) ∧ (DraftAt R K d ∧ AtOK (setF I d 8 0) d ∧ 1 ≤ 7 ∧ 7 < 17)) ∧ (∀ (J25 : IH), (FrA d (setF I d 8 0) J25) → (J25 d 7 = ((wd (bJ (setF I d 8 0) d) (strF 7) ((setF I d 8 0) d 7).toNat).1 : Int)) → (AtOK J25 d) → Q (some (aI (b2i ((wd (bJ (setF I d 8 0) d) (strF 7) ((setF I d 8 0) d 7).toNat).2 = true)))) J25 L R K)) ∧ ((bJ I d (I d 7).toNat) ≠ 104 → (bJ I d (I d 7).toNat) ≠ 111 → (bJ I d (I d 7).toNat) ≠ 116 → (bJ I d (I d 7).toNat) ≠ 118 → Q (some (aI 0)) I L R K))) : E sc 282 0 [some (aR (some d))] [] I L R K Q :=
  e_aload_n mb_282 dX9_readEnd_0 rfl (e_callV mb_282 dX9_readEnd_1 mf_282 mf_291 cs_36937 rfl rfl rfl rfl h.1.1 rfl (v_291 hL h.1.2 (show E _ _ _ _ (_ :: _) _ _ _ _ _ from (Decidable.byCases (fun q1a : (bJ I d (I d 7).toNat) = 104 => e_lsw mb_282 dX9_readEnd_4 rfl (by rw [q1a]; rfl) (e_aload_n mb_282 dX9_readEnd_60 rfl (e_iconst mb_282 dX9_readEnd_61 cv_iconst_1 (e_puti mb_282 dX9_readEnd_62 mf_282.1 fs_36930 fk_9_8 (Or.inl ff_9_8) (h.2.1 q1a).1 (e_aload_n mb_282 dX9_readEnd_65 rfl (e_ldc mb_282 dX9_readEnd_66 (by rw [mf_282.1]; exact ls_36947) rfl (e_callV mb_282 dX9_readEnd_68 mf_282 mf_292 cs_36943 rfl rfl rfl rfl (h.2.1 q1a).2.1.1 rfl (v_292 hL (h.2.1 q1a).2.1.2 (fun J1 hp2 hp3 hp4 => (show E _ _ _ _ [aI (b2i ((wd (bJ (setF I d 8 1) d) (strF 8) ((setF I d 8 1) d 7).toNat).2 = true))] _ _ _ _ _ from e_ireturn mb_282 dX9_readEnd_71 (ri_282 b2i_01) ((h.2.1 q1a).2.2 J1 hp2 hp3 hp4))))))))))) (fun q1a => (Decidable.byCases (fun q1b : (bJ I d (I d 7).toNat) = 111 => e_lsw mb_282 dX9_readEnd_4 rfl (by rw [q1b]; rfl) (e_aload_n mb_282 dX9_readEnd_72 rfl (e_ldc mb_282 dX9_readEnd_73 (by rw [mf_282.1]; exact ls_36949) rfl (e_callV mb_282 dX9_readEnd_75 mf_282 mf_292 cs_36943 rfl rfl rfl rfl (h.2.2.1 q1b).1.1 rfl (v_292 hL (h.2.2.1 q1b).1.2 (fun J5 hp6 hp7 hp8 => (show E _ _ _ _ [aI (b2i ((wd (bJ I d) (strF 9) (I d 7).toNat).2 = true))] _ _ _ _ _ from e_ifb_eq mb_282 dX9_readEnd_78 rfl ⟨fun q2 => e_aload_n mb_282 dX9_readEnd_81 rfl (e_callV mb_282 dX9_readEnd_82 mf_282 mf_283 cs_36951 rfl rfl rfl rfl (((h.2.2.1 q1b).2 J5 hp6 hp7 hp8).1 q2).1 rfl (show E _ _ _ [some (aR (some d)), none, none] [] _ _ _ _ _ from e_aload_n mb_283 dX9_readOwed_0 rfl (e_bipush mb_283 dX9_readOwed_1 cv_bipush_57 (e_callV mb_283 dX9_readOwed_3 mf_283 mf_293 cs_36959 rfl rfl rfl rfl (((h.2.2.1 q1b).2 J5 hp6 hp7 hp8).1 q2).2.1.1 rfl (v_293 hL (((h.2.2.1 q1b).2 J5 hp6 hp7 hp8).1 q2).2.1.2 (fun J9 hp10 hp11 hp12 => (show E _ _ _ _ [aI ((dgt (bJ J5 d) 57 (J5 d 7).toNat).2)] _ _ _ _ _ from e_istore_n (l1 := [some (aR (some d)), some (aI ((dgt (bJ J5 d) 57 (J5 d 7).toNat).2)), none]) mb_283 dX9_readOwed_6 rfl (e_iload_n mb_283 dX9_readOwed_7 rfl (e_if mb_283 dX9_readOwed_8 rfl (fun q3 => e_aload_n mb_283 dX9_readOwed_13 rfl (e_bipush mb_283 dX9_readOwed_14 cv_bipush_57 (e_callV mb_283 dX9_readOwed_16 mf_283 mf_293 cs_36959 rfl rfl rfl rfl (((((h.2.2.1 q1b).2 J5 hp6 hp7 hp8).1 q2).2.2 J9 hp10 hp11 hp12).1 (cb_ge.1.mp q3)).1.1 rfl (v_293 hL (((((h.2.2.1 q1b).2 J5 hp6 hp7 hp8).1 q2).2.2 J9 hp10 hp11 hp12).1 (cb_ge.1.mp q3)).1.2 (fun J13 hp14 hp15 hp16 => (show E _ _ _ _ [aI ((dgt (bJ J9 d) 57 (J9 d 7).toNat).2)] _ _ _ _ _ from e_istore_n (l1 := [some (aR (some d)), some (aI ((dgt (bJ J5 d) 57 (J5 d 7).toNat).2)), some (aI ((dgt (bJ J9 d) 57 (J9 d 7).toNat).2))]) mb_283 dX9_readOwed_19 rfl (e_aload_n mb_283 dX9_readOwed_20 rfl (e_bipush mb_283 dX9_readOwed_21 cv_bipush_100 (e_iload_n mb_283 dX9_readOwed_23 rfl (e_if mb_283 dX9_readOwed_24 rfl (fun q4 => e_iload_n mb_283 dX9_readOwed_31 rfl (e_bipush mb_283 dX9_readOwed_32 cv_bipush_10 (e_imul mb_283 dX9_readOwed_34 (((((((h.2.2.1 q1b).2 J5 hp6 hp7 hp8).1 q2).2.2 J9 hp10 hp11 hp12).1 (cb_ge.1.mp q3)).2 J13 hp14 hp15 hp16).1 (cb_ge.1.mp q4)).1 (e_iload_n mb_283 dX9_readOwed_35 rfl (e_iadd mb_283 dX9_readOwed_36 (((((((h.2.2.1 q1b).2 J5 hp6 hp7 hp8).1 q2).2.2 J9 hp10 hp11 hp12).1 (cb_ge.1.mp q3)).2 J13 hp14 hp15 hp16).1 (cb_ge.1.mp q4)).2.1 (e_iadd mb_283 dX9_readOwed_37 (((((((h.2.2.1 q1b).2 J5 hp6 hp7 hp8).1 q2).2.2 J9 hp10 hp11 hp12).1 (cb_ge.1.mp q3)).2 J13 hp14 hp15 hp16).1 (cb_ge.1.mp q4)).2.2.1 (e_puti mb_283 dX9_readOwed_38 mf_283.1 fs_36930 fk_9_8 (Or.inl ff_9_8) (((((((h.2.2.1 q1b).2 J5 hp6 hp7 hp8).1 q2).2.2 J9 hp10 hp11 hp12).1 (cb_ge.1.mp q3)).2 J13 hp14 hp15 hp16).1 (cb_ge.1.mp q4)).2.2.2.1 (e_iconst mb_283 dX9_readOwed_41 cv_iconst_1 (e_ireturn mb_283 dX9_readOwed_42 (ri_283 (Or.inr rfl)) (show E _ _ _ _ [aI 1] _ _ _ _ _ from e_if mb_282 dX9_readEnd_85 rfl (fun q => absurd q (by decide)) (fun _ => e_iconst mb_282 dX9_readEnd_88 cv_iconst_1 (e_goto mb_282 dX9_readEnd_89 rfl (e_ireturn mb_282 dX9_readEnd_93 (ri_282 (Or.inr rfl)) (((((((h.2.2.1 q1b).2 J5 hp6 hp7 hp8).1 q2).2.2 J9 hp10 hp11 hp12).1 (cb_ge.1.mp q3)).2 J13 hp14 hp15 hp16).1 (cb_ge.1.mp q4)).2.2.2.2))))))))))))) (fun q4 => e_iload_n mb_283 dX9_readOwed_27 rfl (e_goto mb_283 dX9_readOwed_28 rfl (e_iadd mb_283 dX9_readOwed_37 (((((((h.2.2.1 q1b).2 J5 hp6 hp7 hp8).1 q2).2.2 J9 hp10 hp11 hp12).1 (cb_ge.1.mp q3)).2 J13 hp14 hp15 hp16).2 (cb_ge.2.mp q4)).1 (e_puti mb_283 dX9_readOwed_38 mf_283.1 fs_36930 fk_9_8 (Or.inl ff_9_8) (((((((h.2.2.1 q1b).2 J5 hp6 hp7 hp8).1 q2).2.2 J9 hp10 hp11 hp12).1 (cb_ge.1.mp q3)).2 J13 hp14 hp15 hp16).2 (cb_ge.2.mp q4)).2.1 (e_iconst mb_283 dX9_readOwed_41 cv_iconst_1 (e_ireturn mb_283 dX9_readOwed_42 (ri_283 (Or.inr rfl)) (show E _ _ _ _ [aI 1] _ _ _ _ _ from e_if mb_282 dX9_readEnd_85 rfl (fun q => absurd q (by decide)) (fun _ => e_iconst mb_282 dX9_readEnd_88 cv_iconst_1 (e_goto mb_282 dX9_readEnd_89 rfl (e_ireturn mb_282 dX9_readEnd_93 (ri_282 (Or.inr rfl)) (((((((h.2.2.1 q1b).2 J5 hp6 hp7 hp8).1 q2).2.2 J9 hp10 hp11 hp12).1 (cb_ge.1.mp q3)).2 J13 hp14 hp15 hp16).2 (cb_ge.2.mp q4)).2.2)))))))))))))))))))) (fun q3 => e_iconst mb_283 dX9_readOwed_11 cv_iconst_0 (e_ireturn mb_283 dX9_readOwed_12 (ri_283 (Or.inl rfl)) (show E _ _ _ _ [aI 0] _ _ _ _ _ from e_if mb_282 dX9_readEnd_85 rfl (fun _ => e_iconst mb_282 dX9_readEnd_92 cv_iconst_0 (e_ireturn mb_282 dX9_readEnd_93 (ri_282 (Or.inl rfl)) (((((h.2.2.1 q1b).2 J5 hp6 hp7 hp8).1 q2).2.2 J9 hp10 hp11 hp12).2 (cb_ge.2.mp q3)))) (fun q => absurd q (by decide)))))))))))))), fun q2 => e_iconst mb_282 dX9_readEnd_92 cv_iconst_0 (e_ireturn mb_282 dX9_readEnd_93 (ri_282 (Or.inl rfl)) (((h.2.2.1 q1b).2 J5 hp6 hp7 hp8).2 q2))⟩))))))) (fun q1b => (Decidable.byCases (fun q1c : (bJ I d (I d 7).toNat) = 116 => e_lsw mb_282 dX9_readEnd_4 rfl (by rw [q1c]; rfl) (e_aload_n mb_282 dX9_readEnd_94 rfl (e_ldc mb_282 dX9_readEnd_95 (by rw [mf_282.1]; exact ls_36954) rfl (e_callV mb_282 dX9_readEnd_97 mf_282 mf_292 cs_36943 rfl rfl rfl rfl (h.2.2.2.1 q1c).1.1 rfl (v_292 hL (h.2.2.2.1 q1c).1.2 (fun J17 hp18 hp19 hp20 => (show E _ _ _ _ [aI (b2i ((wd (bJ I d) (strF 10) (I d 7).toNat).2 = true))] _ _ _ _ _ from e_ifb_eq mb_282 dX9_readEnd_100 rfl ⟨fun q5 => e_aload_n mb_282 dX9_readEnd_103 rfl (e_callV mb_282 dX9_readEnd_104 mf_282 mf_284 cs_36956 rfl rfl rfl rfl (((h.2.2.2.1 q1c).2 J17 hp18 hp19 hp20).1 q5).1 rfl (show E _ _ _ [some (aR (some d)), none] [] _ _ _ _ _ from e_aload_n mb_284 dX9_readGoes_0 rfl (e_bipush mb_284 dX9_readGoes_1 cv_bipush_51 (e_callV mb_284 dX9_readGoes_3 mf_284 mf_293 cs_36959 rfl rfl rfl rfl (((h.2.2.2.1 q1c).2 J17 hp18 hp19 hp20).1 q5).2.1.1 rfl (v_293 hL (((h.2.2.2.1 q1c).2 J17 hp18 hp19 hp20).1 q5).2.1.2 (fun J21 hp22 hp23 hp24 => (show E _ _ _ _ [aI ((dgt (bJ J17 d) 51 (J17 d 7).toNat).2)] _ _ _ _ _ from e_istore_n (l1 := [some (aR (some d)), some (aI ((dgt (bJ J17 d) 51 (J17 d 7).toNat).2))]) mb_284 dX9_readGoes_6 rfl (e_aload_n mb_284 dX9_readGoes_7 rfl (e_sipush mb_284 dX9_readGoes_8 cv_sipush_200 (e_iload_n mb_284 dX9_readGoes_11 rfl (e_iadd mb_284 dX9_readGoes_12 ((((h.2.2.2.1 q1c).2 J17 hp18 hp19 hp20).1 q5).2.2 J21 hp22 hp23 hp24).1 (e_puti mb_284 dX9_readGoes_13 mf_284.1 fs_36930 fk_9_8 (Or.inl ff_9_8) ((((h.2.2.2.1 q1c).2 J17 hp18 hp19 hp20).1 q5).2.2 J21 hp22 hp23 hp24).2.1 (e_iload_n mb_284 dX9_readGoes_16 rfl (e_if mb_284 dX9_readGoes_17 rfl (fun q6 => e_iconst mb_284 dX9_readGoes_24 cv_iconst_0 (e_ireturn mb_284 dX9_readGoes_25 (ri_284 (Or.inl rfl)) (show E _ _ _ _ [aI 0] _ _ _ _ _ from e_if mb_282 dX9_readEnd_107 rfl (fun _ => e_iconst mb_282 dX9_readEnd_114 cv_iconst_0 (e_ireturn mb_282 dX9_readEnd_115 (ri_282 (Or.inl rfl)) (((((h.2.2.2.1 q1c).2 J17 hp18 hp19 hp20).1 q5).2.2 J21 hp22 hp23 hp24).2.2.1 (cb_lt.1.mp q6)))) (fun q => absurd q (by decide))))) (fun q6 => e_iconst mb_284 dX9_readGoes_20 cv_iconst_1 (e_goto mb_284 dX9_readGoes_21 rfl (e_ireturn mb_284 dX9_readGoes_25 (ri_284 (Or.inr rfl)) (show E _ _ _ _ [aI 1] _ _ _ _ _ from e_if mb_282 dX9_readEnd_107 rfl (fun q => absurd q (by decide)) (fun _ => e_iconst mb_282 dX9_readEnd_110 cv_iconst_1 (e_goto mb_282 dX9_readEnd_111 rfl (e_ireturn mb_282 dX9_readEnd_115 (ri_282 (Or.inr rfl)) (((((h.2.2.2.1 q1c).2 J17 hp18 hp19 hp20).1 q5).2.2 J21 hp22 hp23 hp24).2.2.2 (cb_lt.2.mp q6))))))))))))))))))))))), fun q5 => e_iconst mb_282 dX9_readEnd_114 cv_iconst_0 (e_ireturn mb_282 dX9_readEnd_115 (ri_282 (Or.inl rfl)) (((h.2.2.2.1 q1c).2 J17 hp18 hp19 hp20).2 q5))⟩))))))) (fun q1c => (Decidable.byCases (fun q1d : (bJ I d (I d 7).toNat) = 118 => e_lsw mb_282 dX9_readEnd_4 rfl (by rw [q1d]; rfl) (e_aload_n mb_282 dX9_readEnd_48 rfl (e_iconst mb_282 dX9_readEnd_49 cv_iconst_0 (e_puti mb_282 dX9_readEnd_50 mf_282.1 fs_36930 fk_9_8 (Or.inl ff_9_8) (h.2.2.2.2.1 q1d).1 (e_aload_n mb_282 dX9_readEnd_53 rfl (e_ldc mb_282 dX9_readEnd_54 (by rw [mf_282.1]; exact ls_36941) rfl (e_callV mb_282 dX9_readEnd_56 mf_282 mf_292 cs_36943 rfl rfl rfl rfl (h.2.2.2.2.1 q1d).2.1.1 rfl (v_292 hL (h.2.2.2.2.1 q1d).2.1.2 (fun J25 hp26 hp27 hp28 => (show E _ _ _ _ [aI (b2i ((wd (bJ (setF I d 8 0) d) (strF 7) ((setF I d 8 0) d 7).toNat).2 = true))] _ _ _ _ _ from e_ireturn mb_282 dX9_readEnd_59 (ri_282 b2i_01) ((h.2.2.2.2.1 q1d).2.2 J25 hp26 hp27 hp28))))))))))) (fun q1d => e_lsw mb_282 dX9_readEnd_4 rfl (by simp only [Op.lookupswitch.offset, if_neg (Ne.symm q1a), if_neg (Ne.symm q1b), if_neg (Ne.symm q1c), if_neg (Ne.symm q1d)]; rfl) (e_iconst mb_282 dX9_readEnd_116 cv_iconst_0 (e_ireturn mb_282 dX9_readEnd_117 (ri_282 (Or.inl rfl)) ((((h.2.2.2.2.2 q1a) q1b) q1c) q1d))))))))))))))
theorem v_282 {sc : Nat × (Nat → Int)} {I : IH} {L : LH} {R : RH} {K : KH} {Q : AQ} {d : Nat} (hL : Lay R K) (hp : DraftAt R K d ∧ AtOK I d) (h : ∀ J, FrE d I J → J d 7 = ((endS (bJ I d) (I d 7).toNat).1 : Int) → AtOK J d → ((endS (bJ I d) (I d 7).toNat).2.1 = true → J d 8 = (endS (bJ I d) (I d 7).toNat).2.2) → Q (some (aI (b2i ((endS (bJ I d) (I d 7).toNat).2.1 = true)))) J L R K) : E sc 282 0 [some (aR (some d))] [] I L R K Q := by
  obtain ⟨hd, hA⟩ := hp
  have hne := dr_ne hd
  have go : ∀ (J : IH) (z : Int), FrE d I J → AtOK J d → J d 7 = ((endS (bJ I d) (I d 7).toNat).1 : Int) → ((endS (bJ I d) (I d 7).toNat).2.1 = true → J d 8 = (endS (bJ I d) (I d 7).toNat).2.2) → z = b2i ((endS (bJ I d) (I d 7).toNat).2.1 = true) → Q (some (aI z)) J L R K := fun J z g1 g2 g3 g4 g5 => by rw [g5]; exact h J g1 g3 g2 g4
  have tn : ∀ n : Nat, ((n : Nat) : Int).toNat = n := fun n => Int.toNat_natCast n
  refine w_282_0 hL ⟨⟨hd.1, hd, hA⟩, fun qh => ⟨hd.1, ⟨hd.1, hd, at_8 hA, by omega, by omega⟩, fun J f1 t1 a1 => ?_⟩, fun qo => ⟨⟨hd.1, hd, hA, by omega, by omega⟩, fun J f1 t1 a1 => ⟨fun qw => ⟨hd.1, ⟨hd.1, hd, a1, by omega⟩, fun J2 f2 t2 a2 => ?_⟩, fun qw => ?_⟩⟩, fun qt => ⟨⟨hd.1, hd, hA, by omega, by omega⟩, fun J f1 t1 a1 => ⟨fun qw => ⟨hd.1, ⟨hd.1, hd, a1, by omega⟩, fun J2 f2 t2 a2 => ?_⟩, fun qw => ?_⟩⟩, fun qv => ⟨hd.1, ⟨hd.1, hd, at_8 hA, by omega, by omega⟩, fun J f1 t1 a1 => ?_⟩, fun n1 n2 n3 n4 => ?_⟩
  · have fe : FrE d I (setF I d 8 1) := fre_8 (fre_a fra_r)
    have e1 := bJ_fre hne.1 fe
    have e2 : setF I d 8 1 d 7 = I d 7 := setF_n (by omega)
    rw [e1, e2] at t1 ⊢
    have es : endS (bJ I d) (I d 7).toNat = ((wd (bJ I d) (strF 8) (I d 7).toNat).1, (wd (bJ I d) (strF 8) (I d 7).toNat).2, 1) := by unfold endS; rw [if_pos qh]
    exact go _ _ (fre_t fe (fre_a f1)) a1 (by rw [es]; exact t1) (fun _ => by rw [es, f1 d 8 (by omega)]; exact setF_s) (by rw [es])
  · have eb := bJ_fr hne.1 f1
    rw [eb, t1, tn] at t2 ⊢
    have eb2 : bJ J2 d = bJ I d := by rw [bJ_fr hne.1 f2, eb]
    have b1 := dgt_b (b := bJ I d) (hi := 57) (p := (wd (bJ I d) (strF 9) (I d 7).toNat).1)
    have b2 := dgt_b (b := bJ I d) (hi := 57) (p := (dgt (bJ I d) 57 (wd (bJ I d) (strF 9) (I d 7).toNat).1).1)
    refine ⟨fun qd => ⟨⟨hd.1, hd, a2, by omega⟩, fun J3 f3 t3 a3 => ?_⟩, fun qd => ?_⟩
    · rw [eb2, t2, tn] at t3 ⊢
      have es : endS (bJ I d) (I d 7).toNat = ((dgt (bJ I d) 57 (dgt (bJ I d) 57 (wd (bJ I d) (strF 9) (I d 7).toNat).1).1).1, true, 100 + (if 0 ≤ (dgt (bJ I d) 57 (dgt (bJ I d) 57 (wd (bJ I d) (strF 9) (I d 7).toNat).1).1).2 then (dgt (bJ I d) 57 (wd (bJ I d) (strF 9) (I d 7).toNat).1).2 * 10 + (dgt (bJ I d) 57 (dgt (bJ I d) 57 (wd (bJ I d) (strF 9) (I d 7).toNat).1).1).2 else (dgt (bJ I d) 57 (wd (bJ I d) (strF 9) (I d 7).toNat).1).2)) := by
        unfold endS
        rw [if_neg (by omega), if_pos qo, if_pos qw, if_pos qd]
      have fr : FrE d I J3 := fre_t (fre_t (fre_a f1) (fre_a f2)) (fre_a f3)
      refine ⟨fun qe => ⟨by omega, by omega, by omega, hd.1, ?_⟩, fun qe => ⟨by omega, hd.1, ?_⟩⟩
      · refine go _ _ (fre_8 fr) (at_8 a3) ?_ (fun _ => ?_) ?_
        · rw [es, setF_n (by omega)]; exact t3
        · rw [es, setF_s]; dsimp only; rw [if_pos qe]
        · simp only [es]; rfl
      · refine go _ _ (fre_8 fr) (at_8 a3) ?_ (fun _ => ?_) ?_
        · rw [es, setF_n (by omega)]; exact t3
        · rw [es, setF_s]; dsimp only; rw [if_neg (by omega)]
        · simp only [es]; rfl
    · have es : endS (bJ I d) (I d 7).toNat = ((wd (bJ I d) (strF 9) (I d 7).toNat).1, false, 0) := by
        unfold endS
        rw [if_neg (by omega), if_pos qo, if_pos qw, if_neg (by omega)]
      refine go _ _ (fre_t (fre_a f1) (fre_a f2)) a2 ?_ (fun g => by rw [es] at g; cases g) (by rw [es]; rfl)
      rw [es, t2, (b1.2.2.1 qd).1]
  · have es : endS (bJ I d) (I d 7).toNat = ((wd (bJ I d) (strF 9) (I d 7).toNat).1, false, 0) := by
      unfold endS
      rw [if_neg (by omega), if_pos qo, if_neg qw]
    exact go _ _ (fre_a f1) a1 (by rw [es]; exact t1) (fun g => by rw [es] at g; cases g) (by rw [es]; rfl)
  · have eb := bJ_fr hne.1 f1
    rw [eb, t1, tn] at t2 ⊢
    have b1 := dgt_b (b := bJ I d) (hi := 51) (p := (wd (bJ I d) (strF 10) (I d 7).toNat).1)
    have es : endS (bJ I d) (I d 7).toNat = ((dgt (bJ I d) 51 (wd (bJ I d) (strF 10) (I d 7).toNat).1).1, decide (0 ≤ (dgt (bJ I d) 51 (wd (bJ I d) (strF 10) (I d 7).toNat).1).2), 200 + (dgt (bJ I d) 51 (wd (bJ I d) (strF 10) (I d 7).toNat).1).2) := by
      unfold endS
      rw [if_neg (by omega), if_neg (by omega), if_pos qt, if_pos qw]
    have fr : FrE d I J2 := fre_t (fre_a f1) (fre_a f2)
    refine ⟨by omega, hd.1, fun q6 => ?_, fun q6 => ?_⟩
    · refine go _ _ (fre_8 fr) (at_8 a2) ?_ (fun g => ?_) ?_
      · rw [es, setF_n (by omega)]; exact t2
      · rw [es] at g
        have g := of_decide_eq_true (show decide (0 ≤ (dgt (bJ I d) 51 (wd (bJ I d) (strF 10) (I d 7).toNat).1).2) = true from g)
        omega
      · rw [es, decide_eq_false (by omega)]; rfl
    · refine go _ _ (fre_8 fr) (at_8 a2) ?_ (fun g => ?_) ?_
      · rw [es, setF_n (by omega)]; exact t2
      · rw [es, setF_s]
      · rw [es, decide_eq_true (by omega)]; rfl
  · have es : endS (bJ I d) (I d 7).toNat = ((wd (bJ I d) (strF 10) (I d 7).toNat).1, false, 0) := by
      unfold endS
      rw [if_neg (by omega), if_neg (by omega), if_pos qt, if_neg qw]
    exact go _ _ (fre_a f1) a1 (by rw [es]; exact t1) (fun g => by rw [es] at g; cases g) (by rw [es]; rfl)
  · have fe : FrE d I (setF I d 8 0) := fre_8 (fre_a fra_r)
    have e1 := bJ_fre hne.1 fe
    have e2 : setF I d 8 0 d 7 = I d 7 := setF_n (by omega)
    rw [e1, e2] at t1 ⊢
    have es : endS (bJ I d) (I d 7).toNat = ((wd (bJ I d) (strF 7) (I d 7).toNat).1, (wd (bJ I d) (strF 7) (I d 7).toNat).2, 0) := by unfold endS; rw [if_neg (by omega), if_neg (by omega), if_neg (by omega), if_pos qv]
    exact go _ _ (fre_t fe (fre_a f1)) a1 (by rw [es]; exact t1) (fun _ => by rw [es, f1 d 8 (by omega)]; exact setF_s) (by rw [es])
  · have es : endS (bJ I d) (I d 7).toNat = ((I d 7).toNat, false, 0) := by unfold endS; rw [if_neg n1, if_neg n2, if_neg n3, if_neg n4]
    exact go _ _ (fre_a fra_r) hA (by rw [es]; show I d 7 = ((I d 7).toNat : Int); have := hA.1; omega) (fun g => by rw [es] at g; cases g) (by rw [es]; rfl)
/-! the reference's -/
def eatL (b : Nat → Int) : List Int → Nat × Bool → Nat × Bool
  | [], S => S
  | c :: cs, S => eatL b cs (eatS b c S)
theorem eat_f {b : Nat → Int} {c : Int} {p : Nat} : eatS b c (p, false) = (p, false) := rfl
theorem eatL_f {b : Nat → Int} : ∀ (cs : List Int) (p : Nat), eatL b cs (p, false) = (p, false) := by
  intro cs
  induction cs with
  | nil => intro p; rfl
  | cons c cs ih => intro p; rw [eatL, eat_f, ih]
theorem eatL_wd {b : Nat → Int} : ∀ (cs : List Int) (p : Nat), eatL b cs (p, true) = wd b cs p := by
  intro cs
  induction cs with
  | nil => intro p; rfl
  | cons c cs ih =>
    intro p
    rw [eatL, wd]
    by_cases q : b p = c
    · have e : eatS b c (p, true) = (p + 1, true) := by unfold eatS; rw [if_pos rfl, if_pos q]
      rw [if_pos q, e, ih]
    · have e : eatS b c (p, true) = (p, false) := by unfold eatS; rw [if_pos rfl, if_neg q]
      rw [if_neg q, e, eatL_f]
theorem dgS_t {b : Nat → Int} {hi : Int} {p : Nat} : dgS b hi (p, true) = ((dgt b hi p).1, decide (0 ≤ (dgt b hi p).2)) ∧ (0 ≤ (dgt b hi p).2 → dgV b hi (p, true) = (dgt b hi p).2) := by
  unfold dgS dgV dgt
  by_cases q : 48 ≤ b p ∧ b p ≤ hi
  · rw [if_pos rfl, if_pos q, if_pos q, if_pos ⟨rfl, q⟩]
    exact ⟨Prod.ext rfl (decide_eq_true (show 0 ≤ b p - 48 by omega)).symm, fun _ => rfl⟩
  · rw [if_pos rfl, if_neg q, if_neg q]
    exact ⟨Prod.ext rfl (decide_eq_false (show ¬ (0 : Int) ≤ -1 by omega)).symm, fun g => absurd (show (0 : Int) ≤ -1 from g) (by omega)⟩
theorem dgS_f {b : Nat → Int} {hi : Int} {p : Nat} : dgS b hi (p, false) = (p, false) := rfl
theorem dgV_b {b : Nat → Int} {hi : Int} {S : Nat × Bool} (h : hi ≤ 57) : 0 ≤ dgV b hi S ∧ dgV b hi S ≤ 9 := by
  unfold dgV
  split <;> omega
theorem st_eta {I : IH} {p : Nat} {o : Bool} (h : stM I = (p, o)) : (stM I).1 = p ∧ (stM I).2 = o ∧ (I 77 56 = 0 ↔ o = true) := by
  rw [h]
  refine ⟨rfl, rfl, ?_⟩
  have : decide (I 77 56 = 0) = o := congrArg Prod.snd h
  rw [← this]
  exact ⟨fun g => decide_eq_true g, fun g => of_decide_eq_true g⟩
theorem w_80_0 {sc : Nat × (Nat → Int)} {I : IH} {L : LH} {R : RH} {K : KH} {Q : AQ} (hL : Lay R K) (h : ((MOK I)) ∧ (((bM I (stM I).1) = 104 → ((MOK I ∧ (0 : Int) ≤ 104)) ∧ (∀ (J1 : IH), (FrM I J1) → (stM J1 = eatS (bM I) 104 (stM I)) → (MOK J1) → ((MOK J1 ∧ (0 : Int) ≤ 111)) ∧ (∀ (J5 : IH), (FrM J1 J5) → (stM J5 = eatS (bM J1) 111 (stM J1)) → (MOK J5) → ((MOK J5 ∧ (0 : Int) ≤ 108)) ∧ (∀ (J9 : IH), (FrM J5 J9) → (stM J9 = eatS (bM J5) 108 (stM J5)) → (MOK J9) → ((MOK J9 ∧ (0 : Int) ≤ 100)) ∧ (∀ (J13 : IH), (FrM J9 J13) → (stM J13 = eatS (bM J9) 100 (stM J9)) → (MOK J13) → ((MOK J13 ∧ (0 : Int) ≤ 115)) ∧ (∀ (J17 : IH), (FrM J13 J17) → (stM J17 = eatS (bM J13) 115 (stM J13)) → (MOK J17) → Q (some (aI 1)) J17 L R K)))))) ∧ ((bM I (stM I).1) = 111 → ((MOK I ∧ (0 : Int) ≤ 111)) ∧ (∀ (J21 : IH), (FrM I J21) → (stM J21 = eatS (bM I) 111 (stM I)) → (MOK J21) → ((MOK J21 ∧ (0 : Int) ≤ 119)) ∧ (∀ (J25 : IH), (FrM J21 J25) → (stM J25 = eatS (bM J21) 119 (stM J21)) → (MOK J25) → ((MOK J25 ∧ (0 : Int) ≤ 101)) ∧ (∀ (J29 : IH), (FrM J25 J29) → (stM J29 = eatS (bM J25) 101 (stM J25)) → (MOK J29) → ((MOK J29 ∧ (0 : Int) ≤ 100)) ∧ (∀ (J33 : IH), (FrM J29 J33) → (stM J33 = eatS (bM J29) 100 (stM J29)) → (MOK J33) → ((MOK J33 ∧ (0 : Int) ≤ 32)) ∧ (∀ (J37 : IH), (FrM J33 J37) → (stM J37 = eatS (bM J33) 32 (stM J33)) → (MOK J37) → ((MOK J37 ∧ 48 = (48 : Int) ∧ 57 < (1000 : Int))) ∧ (∀ (J41 : IH), (FrM J37 J41) → (stM J41 = dgS (bM J37) 57 (stM J37)) → (MOK J41) → (((J41 77 56) ≠ 0 → ((-2147483648 : Int) ≤ 100 + (dgV (bM J37) 57 (stM J37)) ∧ 100 + (dgV (bM J37) 57 (stM J37)) < (2147483648 : Int)) ∧ Q (some (aI (100 + (dgV (bM J37) 57 (stM J37))))) J41 L R K) ∧ ((J41 77 56) = 0 → ((MOK J41)) ∧ (((48 : Int) ≤ (bM J41 (stM J41).1) ∧ (bM J41 (stM J41).1) ≤ (57 : Int) → ((-2147483648 : Int) ≤ 10 * (dgV (bM J37) 57 (stM J37)) ∧ 10 * (dgV (bM J37) 57 (stM J37)) < (2147483648 : Int)) ∧ ((MOK J41 ∧ 48 = (48 : Int) ∧ 57 < (1000 : Int))) ∧ (∀ (J45 : IH), (FrM J41 J45) → (stM J45 = dgS (bM J41) 57 (stM J41)) → (MOK J45) → ((-2147483648 : Int) ≤ (10 * (dgV (bM J37) 57 (stM J37))) + (dgV (bM J41) 57 (stM J41)) ∧ (10 * (dgV (bM J37) 57 (stM J37))) + (dgV (bM J41) 57 (stM J41)) < (2147483648 : Int)) ∧ ((-2147483648 : Int) ≤ 100 + ((10 * (dgV (bM J37) 57 (stM J37))) + (dgV (bM J41) 57 (stM J41))) ∧ 100 + ((10 * (dgV (bM J37) 57 (stM J37))) + (dgV (bM J41) 57 (stM J41))) < (2147483648 : Int)) ∧ Q (some (aI (100 + ((10 * (dgV (bM J37) 57 (stM J37))) + (dgV (bM J41) 57 (stM J41)))))) J45 L R K)) ∧ (¬((48 : Int) ≤ (bM J41 (stM J41).1) ∧ (bM J41 (stM J41).1) ≤ (57 : Int)) → ((-2147483648 : Int) ≤ 100 + (dgV (bM J37) 57 (stM J37)) ∧ 100 + (dgV (bM J37) 57 (stM J37)) < (2147483648 : Int)) ∧ Q (some (aI (100 + (dgV (bM J37) 57 (stM J37))))) J41 L R K))))))))))) ∧ ((bM I (stM I).1) = 118 → ((MOK I ∧ (0 : Int) ≤ 118)) ∧ (∀ (J49 : IH), (FrM I J49) → (stM J49 = eatS (bM I) 118 (stM I)) → (MOK J49) → ((MOK J49 ∧ (0 : Int) ≤ 111)) ∧ (∀ (J53 : IH), (FrM J49 J53) → (stM J53 = eatS (bM J49) 111 (stM J49)) → (MOK J53) → ((MOK J53 ∧ (0 : Int) ≤ 105)) ∧ (∀ (J57 : IH), (FrM J53 J57) → (stM J57 = eatS (bM J53) 105 (stM J53)) → (MOK J57) → ((MOK J57 ∧ (0 : Int) ≤ 100)) ∧ (∀ (J61 : IH), (FrM J57 J61) → (stM J61 = eatS (bM J57) 100 (stM J57)) → (MOK J61) → Q (some (aI 0)) J61 L R K))))) ∧ ((bM I (stM I).1) ≠ 104 → (bM I (stM I).1) ≠ 111 → (bM I (stM I).1) ≠ 118 → ((MOK I ∧ (0 : Int) ≤ 116)) ∧ (∀ (J65 : IH), (FrM I J65) → (stM J65 = eatS (bM I) 116 (stM I)) → (MOK J65) → ((MOK J65 ∧ (0 : Int) ≤ 111)) ∧ (∀ (J69 : IH), (FrM J65 J69) → (stM J69 = eatS (bM J65) 111 (stM J65)) → (MOK J69) → ((MOK J69 ∧ (0 : Int) ≤ 32)) ∧ (∀ (J73 : IH), (FrM J69 J73) → (stM J73 = eatS (bM J69) 32 (stM J69)) → (MOK J73) → ((MOK J73 ∧ 48 = (48 : Int) ∧ 51 < (1000 : Int))) ∧ (∀ (J77 : IH), (FrM J73 J77) → (stM J77 = dgS (bM J73) 51 (stM J73)) → (MOK J77) → ((-2147483648 : Int) ≤ 200 + (dgV (bM J73) 51 (stM J73)) ∧ 200 + (dgV (bM J73) 51 (stM J73)) < (2147483648 : Int)) ∧ Q (some (aI (200 + (dgV (bM J73) 51 (stM J73))))) J77 L R K))))))) : E sc 80 0 [some (aR (some 77)), none] [] I L R K Q :=
  e_iconst mb_80 dX12_endRead_0 cv_iconst_0 (e_istore_n (l1 := [some (aR (some 77)), some (aI 0)]) mb_80 dX12_endRead_1 rfl (e_aload_n mb_80 dX12_endRead_2 rfl (e_callV mb_80 dX12_endRead_3 mf_80 mf_76 cs_49359 rfl rfl rfl rfl (lk_77 hL) rfl (v_76x hL h.1 (show E _ _ _ _ (_ :: _) _ _ _ _ _ from (Decidable.byCases (fun q1a : (bM I (stM I).1) = 104 => e_lsw mb_80 dX12_endRead_6 rfl (by rw [q1a]; rfl) (e_aload_n mb_80 dX12_endRead_54 rfl (e_bipush mb_80 dX12_endRead_55 cv_bipush_104 (e_bipush mb_80 dX12_endRead_57 cv_bipush_111 (e_bipush mb_80 dX12_endRead_59 cv_bipush_108 (e_bipush mb_80 dX12_endRead_61 cv_bipush_100 (e_callV mb_80 dX12_endRead_63 mf_80 mf_78 cs_49367 rfl rfl rfl rfl (lk_77 hL) rfl (show E _ _ _ [some (aR (some 77)), some (aI 104), some (aI 111), some (aI 108), some (aI 100)] [] _ _ _ _ _ from e_aload_n mb_78 dX12_eats4_0 rfl (e_iload_n mb_78 dX12_eats4_1 rfl (e_callV mb_78 dX12_eats4_2 mf_78 mf_77 cs_49363 rfl rfl rfl rfl (lk_77 hL) rfl (v_77 hL (h.2.1 q1a).1 (fun J1 hp2 hp3 hp4 => (show E _ _ _ _ [] _ _ _ _ _ from e_aload_n mb_78 dX12_eats4_5 rfl (e_iload_n mb_78 dX12_eats4_6 rfl (e_callV mb_78 dX12_eats4_7 mf_78 mf_77 cs_49363 rfl rfl rfl rfl (lk_77 hL) rfl (v_77 hL ((h.2.1 q1a).2 J1 hp2 hp3 hp4).1 (fun J5 hp6 hp7 hp8 => (show E _ _ _ _ [] _ _ _ _ _ from e_aload_n mb_78 dX12_eats4_10 rfl (e_iload_n mb_78 dX12_eats4_11 rfl (e_callV mb_78 dX12_eats4_12 mf_78 mf_77 cs_49363 rfl rfl rfl rfl (lk_77 hL) rfl (v_77 hL (((h.2.1 q1a).2 J1 hp2 hp3 hp4).2 J5 hp6 hp7 hp8).1 (fun J9 hp10 hp11 hp12 => (show E _ _ _ _ [] _ _ _ _ _ from e_aload_n mb_78 dX12_eats4_15 rfl (e_iload mb_78 dX12_eats4_16 rfl (e_callV mb_78 dX12_eats4_18 mf_78 mf_77 cs_49363 rfl rfl rfl rfl (lk_77 hL) rfl (v_77 hL ((((h.2.1 q1a).2 J1 hp2 hp3 hp4).2 J5 hp6 hp7 hp8).2 J9 hp10 hp11 hp12).1 (fun J13 hp14 hp15 hp16 => (show E _ _ _ _ [] _ _ _ _ _ from e_return mb_78 dX12_eats4_21 rv_78 (show E _ _ _ _ [] _ _ _ _ _ from e_aload_n mb_80 dX12_endRead_66 rfl (e_bipush mb_80 dX12_endRead_67 cv_bipush_115 (e_callV mb_80 dX12_endRead_69 mf_80 mf_77 cs_49363 rfl rfl rfl rfl (lk_77 hL) rfl (v_77 hL (((((h.2.1 q1a).2 J1 hp2 hp3 hp4).2 J5 hp6 hp7 hp8).2 J9 hp10 hp11 hp12).2 J13 hp14 hp15 hp16).1 (fun J17 hp18 hp19 hp20 => (show E _ _ _ _ [] _ _ _ _ _ from e_iconst mb_80 dX12_endRead_72 cv_iconst_1 (e_ireturn mb_80 dX12_endRead_73 ri_80 ((((((h.2.1 q1a).2 J1 hp2 hp3 hp4).2 J5 hp6 hp7 hp8).2 J9 hp10 hp11 hp12).2 J13 hp14 hp15 hp16).2 J17 hp18 hp19 hp20)))))))))))))))))))))))))))))))))))) (fun q1a => (Decidable.byCases (fun q1b : (bM I (stM I).1) = 111 => e_lsw mb_80 dX12_endRead_6 rfl (by rw [q1b]; rfl) (e_aload_n mb_80 dX12_endRead_74 rfl (e_bipush mb_80 dX12_endRead_75 cv_bipush_111 (e_bipush mb_80 dX12_endRead_77 cv_bipush_119 (e_bipush mb_80 dX12_endRead_79 cv_bipush_101 (e_bipush mb_80 dX12_endRead_81 cv_bipush_100 (e_callV mb_80 dX12_endRead_83 mf_80 mf_78 cs_49367 rfl rfl rfl rfl (lk_77 hL) rfl (show E _ _ _ [some (aR (some 77)), some (aI 111), some (aI 119), some (aI 101), some (aI 100)] [] _ _ _ _ _ from e_aload_n mb_78 dX12_eats4_0 rfl (e_iload_n mb_78 dX12_eats4_1 rfl (e_callV mb_78 dX12_eats4_2 mf_78 mf_77 cs_49363 rfl rfl rfl rfl (lk_77 hL) rfl (v_77 hL (h.2.2.1 q1b).1 (fun J21 hp22 hp23 hp24 => (show E _ _ _ _ [] _ _ _ _ _ from e_aload_n mb_78 dX12_eats4_5 rfl (e_iload_n mb_78 dX12_eats4_6 rfl (e_callV mb_78 dX12_eats4_7 mf_78 mf_77 cs_49363 rfl rfl rfl rfl (lk_77 hL) rfl (v_77 hL ((h.2.2.1 q1b).2 J21 hp22 hp23 hp24).1 (fun J25 hp26 hp27 hp28 => (show E _ _ _ _ [] _ _ _ _ _ from e_aload_n mb_78 dX12_eats4_10 rfl (e_iload_n mb_78 dX12_eats4_11 rfl (e_callV mb_78 dX12_eats4_12 mf_78 mf_77 cs_49363 rfl rfl rfl rfl (lk_77 hL) rfl (v_77 hL (((h.2.2.1 q1b).2 J21 hp22 hp23 hp24).2 J25 hp26 hp27 hp28).1 (fun J29 hp30 hp31 hp32 => (show E _ _ _ _ [] _ _ _ _ _ from e_aload_n mb_78 dX12_eats4_15 rfl (e_iload mb_78 dX12_eats4_16 rfl (e_callV mb_78 dX12_eats4_18 mf_78 mf_77 cs_49363 rfl rfl rfl rfl (lk_77 hL) rfl (v_77 hL ((((h.2.2.1 q1b).2 J21 hp22 hp23 hp24).2 J25 hp26 hp27 hp28).2 J29 hp30 hp31 hp32).1 (fun J33 hp34 hp35 hp36 => (show E _ _ _ _ [] _ _ _ _ _ from e_return mb_78 dX12_eats4_21 rv_78 (show E _ _ _ _ [] _ _ _ _ _ from e_aload_n mb_80 dX12_endRead_86 rfl (e_bipush mb_80 dX12_endRead_87 cv_bipush_32 (e_callV mb_80 dX12_endRead_89 mf_80 mf_77 cs_49363 rfl rfl rfl rfl (lk_77 hL) rfl (v_77 hL (((((h.2.2.1 q1b).2 J21 hp22 hp23 hp24).2 J25 hp26 hp27 hp28).2 J29 hp30 hp31 hp32).2 J33 hp34 hp35 hp36).1 (fun J37 hp38 hp39 hp40 => (show E _ _ _ _ [] _ _ _ _ _ from e_aload_n mb_80 dX12_endRead_92 rfl (e_bipush mb_80 dX12_endRead_93 cv_bipush_48 (e_bipush mb_80 dX12_endRead_95 cv_bipush_57 (e_callV mb_80 dX12_endRead_97 mf_80 mf_79 cs_49371 rfl rfl rfl rfl (lk_77 hL) rfl (v_79 hL ((((((h.2.2.1 q1b).2 J21 hp22 hp23 hp24).2 J25 hp26 hp27 hp28).2 J29 hp30 hp31 hp32).2 J33 hp34 hp35 hp36).2 J37 hp38 hp39 hp40).1 (fun J41 hp42 hp43 hp44 => (show E _ _ _ _ [aI (dgV (bM J37) 57 (stM J37))] _ _ _ _ _ from e_istore_n (l1 := [some (aR (some 77)), some (aI (dgV (bM J37) 57 (stM J37)))]) mb_80 dX12_endRead_100 rfl (e_aload_n mb_80 dX12_endRead_101 rfl (e_getv mb_80 dX12_endRead_102 mf_80.1 fs_49355 (Or.inr fk_12_56) (lk_77 hL) rfl (e_if mb_80 dX12_endRead_105 rfl (fun q2 => e_bipush mb_80 dX12_endRead_136 cv_bipush_100 (e_iload_n mb_80 dX12_endRead_138 rfl (e_iadd mb_80 dX12_endRead_139 ((((((((h.2.2.1 q1b).2 J21 hp22 hp23 hp24).2 J25 hp26 hp27 hp28).2 J29 hp30 hp31 hp32).2 J33 hp34 hp35 hp36).2 J37 hp38 hp39 hp40).2 J41 hp42 hp43 hp44).1 (cb_ne.1.mp q2)).1 (e_ireturn mb_80 dX12_endRead_140 ri_80 ((((((((h.2.2.1 q1b).2 J21 hp22 hp23 hp24).2 J25 hp26 hp27 hp28).2 J29 hp30 hp31 hp32).2 J33 hp34 hp35 hp36).2 J37 hp38 hp39 hp40).2 J41 hp42 hp43 hp44).1 (cb_ne.1.mp q2)).2)))) (fun q2 => e_aload_n mb_80 dX12_endRead_108 rfl (e_callV mb_80 dX12_endRead_109 mf_80 mf_76 cs_49359 rfl rfl rfl rfl (lk_77 hL) rfl (v_76x hL ((((((((h.2.2.1 q1b).2 J21 hp22 hp23 hp24).2 J25 hp26 hp27 hp28).2 J29 hp30 hp31 hp32).2 J33 hp34 hp35 hp36).2 J37 hp38 hp39 hp40).2 J41 hp42 hp43 hp44).2 (cb_ne.2.mp q2)).1 (show E _ _ _ _ (_ :: _) _ _ _ _ _ from e_bipush mb_80 dX12_endRead_112 cv_bipush_48 (e_bipush mb_80 dX12_endRead_114 cv_bipush_57 (e_callS mb_80 dX12_endRead_116 mf_80 mf_66 cs_49329 rfl rfl rfl rfl (v_66 hL (show E _ _ _ _ (_ :: _) _ _ _ _ _ from e_ifb_eq mb_80 dX12_endRead_119 rfl ⟨fun q3 => e_bipush mb_80 dX12_endRead_122 cv_bipush_10 (e_iload_n mb_80 dX12_endRead_124 rfl (e_imul mb_80 dX12_endRead_125 (((((((((h.2.2.1 q1b).2 J21 hp22 hp23 hp24).2 J25 hp26 hp27 hp28).2 J29 hp30 hp31 hp32).2 J33 hp34 hp35 hp36).2 J37 hp38 hp39 hp40).2 J41 hp42 hp43 hp44).2 (cb_ne.2.mp q2)).2.1 q3).1 (e_aload_n mb_80 dX12_endRead_126 rfl (e_bipush mb_80 dX12_endRead_127 cv_bipush_48 (e_bipush mb_80 dX12_endRead_129 cv_bipush_57 (e_callV mb_80 dX12_endRead_131 mf_80 mf_79 cs_49371 rfl rfl rfl rfl (lk_77 hL) rfl (v_79 hL (((((((((h.2.2.1 q1b).2 J21 hp22 hp23 hp24).2 J25 hp26 hp27 hp28).2 J29 hp30 hp31 hp32).2 J33 hp34 hp35 hp36).2 J37 hp38 hp39 hp40).2 J41 hp42 hp43 hp44).2 (cb_ne.2.mp q2)).2.1 q3).2.1 (fun J45 hp46 hp47 hp48 => (show E _ _ _ _ [aI (dgV (bM J41) 57 (stM J41)), aI (10 * (dgV (bM J37) 57 (stM J37)))] _ _ _ _ _ from e_iadd mb_80 dX12_endRead_134 ((((((((((h.2.2.1 q1b).2 J21 hp22 hp23 hp24).2 J25 hp26 hp27 hp28).2 J29 hp30 hp31 hp32).2 J33 hp34 hp35 hp36).2 J37 hp38 hp39 hp40).2 J41 hp42 hp43 hp44).2 (cb_ne.2.mp q2)).2.1 q3).2.2 J45 hp46 hp47 hp48).1 (e_istore_n (l1 := [some (aR (some 77)), some (aI ((10 * (dgV (bM J37) 57 (stM J37))) + (dgV (bM J41) 57 (stM J41))))]) mb_80 dX12_endRead_135 rfl (e_bipush mb_80 dX12_endRead_136 cv_bipush_100 (e_iload_n mb_80 dX12_endRead_138 rfl (e_iadd mb_80 dX12_endRead_139 ((((((((((h.2.2.1 q1b).2 J21 hp22 hp23 hp24).2 J25 hp26 hp27 hp28).2 J29 hp30 hp31 hp32).2 J33 hp34 hp35 hp36).2 J37 hp38 hp39 hp40).2 J41 hp42 hp43 hp44).2 (cb_ne.2.mp q2)).2.1 q3).2.2 J45 hp46 hp47 hp48).2.1 (e_ireturn mb_80 dX12_endRead_140 ri_80 ((((((((((h.2.2.1 q1b).2 J21 hp22 hp23 hp24).2 J25 hp26 hp27 hp28).2 J29 hp30 hp31 hp32).2 J33 hp34 hp35 hp36).2 J37 hp38 hp39 hp40).2 J41 hp42 hp43 hp44).2 (cb_ne.2.mp q2)).2.1 q3).2.2 J45 hp46 hp47 hp48).2.2)))))))))))))), fun q3 => e_bipush mb_80 dX12_endRead_136 cv_bipush_100 (e_iload_n mb_80 dX12_endRead_138 rfl (e_iadd mb_80 dX12_endRead_139 (((((((((h.2.2.1 q1b).2 J21 hp22 hp23 hp24).2 J25 hp26 hp27 hp28).2 J29 hp30 hp31 hp32).2 J33 hp34 hp35 hp36).2 J37 hp38 hp39 hp40).2 J41 hp42 hp43 hp44).2 (cb_ne.2.mp q2)).2.2 q3).1 (e_ireturn mb_80 dX12_endRead_140 ri_80 (((((((((h.2.2.1 q1b).2 J21 hp22 hp23 hp24).2 J25 hp26 hp27 hp28).2 J29 hp30 hp31 hp32).2 J33 hp34 hp35 hp36).2 J37 hp38 hp39 hp40).2 J41 hp42 hp43 hp44).2 (cb_ne.2.mp q2)).2.2 q3).2)))⟩))))))))))))))))))))))))))))))))))))))))))))))))))) (fun q1b => (Decidable.byCases (fun q1c : (bM I (stM I).1) = 118 => e_lsw mb_80 dX12_endRead_6 rfl (by rw [q1c]; rfl) (e_aload_n mb_80 dX12_endRead_40 rfl (e_bipush mb_80 dX12_endRead_41 cv_bipush_118 (e_bipush mb_80 dX12_endRead_43 cv_bipush_111 (e_bipush mb_80 dX12_endRead_45 cv_bipush_105 (e_bipush mb_80 dX12_endRead_47 cv_bipush_100 (e_callV mb_80 dX12_endRead_49 mf_80 mf_78 cs_49367 rfl rfl rfl rfl (lk_77 hL) rfl (show E _ _ _ [some (aR (some 77)), some (aI 118), some (aI 111), some (aI 105), some (aI 100)] [] _ _ _ _ _ from e_aload_n mb_78 dX12_eats4_0 rfl (e_iload_n mb_78 dX12_eats4_1 rfl (e_callV mb_78 dX12_eats4_2 mf_78 mf_77 cs_49363 rfl rfl rfl rfl (lk_77 hL) rfl (v_77 hL (h.2.2.2.1 q1c).1 (fun J49 hp50 hp51 hp52 => (show E _ _ _ _ [] _ _ _ _ _ from e_aload_n mb_78 dX12_eats4_5 rfl (e_iload_n mb_78 dX12_eats4_6 rfl (e_callV mb_78 dX12_eats4_7 mf_78 mf_77 cs_49363 rfl rfl rfl rfl (lk_77 hL) rfl (v_77 hL ((h.2.2.2.1 q1c).2 J49 hp50 hp51 hp52).1 (fun J53 hp54 hp55 hp56 => (show E _ _ _ _ [] _ _ _ _ _ from e_aload_n mb_78 dX12_eats4_10 rfl (e_iload_n mb_78 dX12_eats4_11 rfl (e_callV mb_78 dX12_eats4_12 mf_78 mf_77 cs_49363 rfl rfl rfl rfl (lk_77 hL) rfl (v_77 hL (((h.2.2.2.1 q1c).2 J49 hp50 hp51 hp52).2 J53 hp54 hp55 hp56).1 (fun J57 hp58 hp59 hp60 => (show E _ _ _ _ [] _ _ _ _ _ from e_aload_n mb_78 dX12_eats4_15 rfl (e_iload mb_78 dX12_eats4_16 rfl (e_callV mb_78 dX12_eats4_18 mf_78 mf_77 cs_49363 rfl rfl rfl rfl (lk_77 hL) rfl (v_77 hL ((((h.2.2.2.1 q1c).2 J49 hp50 hp51 hp52).2 J53 hp54 hp55 hp56).2 J57 hp58 hp59 hp60).1 (fun J61 hp62 hp63 hp64 => (show E _ _ _ _ [] _ _ _ _ _ from e_return mb_78 dX12_eats4_21 rv_78 (show E _ _ _ _ [] _ _ _ _ _ from e_iconst mb_80 dX12_endRead_52 cv_iconst_0 (e_ireturn mb_80 dX12_endRead_53 ri_80 (((((h.2.2.2.1 q1c).2 J49 hp50 hp51 hp52).2 J53 hp54 hp55 hp56).2 J57 hp58 hp59 hp60).2 J61 hp62 hp63 hp64))))))))))))))))))))))))))))))) (fun q1c => e_lsw mb_80 dX12_endRead_6 rfl (by simp only [Op.lookupswitch.offset, if_neg (Ne.symm q1a), if_neg (Ne.symm q1b), if_neg (Ne.symm q1c)]; rfl) (e_aload_n mb_80 dX12_endRead_141 rfl (e_bipush mb_80 dX12_endRead_142 cv_bipush_116 (e_callV mb_80 dX12_endRead_144 mf_80 mf_77 cs_49363 rfl rfl rfl rfl (lk_77 hL) rfl (v_77 hL (((h.2.2.2.2 q1a) q1b) q1c).1 (fun J65 hp66 hp67 hp68 => (show E _ _ _ _ [] _ _ _ _ _ from e_aload_n mb_80 dX12_endRead_147 rfl (e_bipush mb_80 dX12_endRead_148 cv_bipush_111 (e_callV mb_80 dX12_endRead_150 mf_80 mf_77 cs_49363 rfl rfl rfl rfl (lk_77 hL) rfl (v_77 hL ((((h.2.2.2.2 q1a) q1b) q1c).2 J65 hp66 hp67 hp68).1 (fun J69 hp70 hp71 hp72 => (show E _ _ _ _ [] _ _ _ _ _ from e_aload_n mb_80 dX12_endRead_153 rfl (e_bipush mb_80 dX12_endRead_154 cv_bipush_32 (e_callV mb_80 dX12_endRead_156 mf_80 mf_77 cs_49363 rfl rfl rfl rfl (lk_77 hL) rfl (v_77 hL (((((h.2.2.2.2 q1a) q1b) q1c).2 J65 hp66 hp67 hp68).2 J69 hp70 hp71 hp72).1 (fun J73 hp74 hp75 hp76 => (show E _ _ _ _ [] _ _ _ _ _ from e_sipush mb_80 dX12_endRead_159 cv_sipush_200 (e_aload_n mb_80 dX12_endRead_162 rfl (e_bipush mb_80 dX12_endRead_163 cv_bipush_48 (e_bipush mb_80 dX12_endRead_165 cv_bipush_51 (e_callV mb_80 dX12_endRead_167 mf_80 mf_79 cs_49371 rfl rfl rfl rfl (lk_77 hL) rfl (v_79 hL ((((((h.2.2.2.2 q1a) q1b) q1c).2 J65 hp66 hp67 hp68).2 J69 hp70 hp71 hp72).2 J73 hp74 hp75 hp76).1 (fun J77 hp78 hp79 hp80 => (show E _ _ _ _ [aI (dgV (bM J73) 51 (stM J73)), aI 200] _ _ _ _ _ from e_iadd mb_80 dX12_endRead_170 (((((((h.2.2.2.2 q1a) q1b) q1c).2 J65 hp66 hp67 hp68).2 J69 hp70 hp71 hp72).2 J73 hp74 hp75 hp76).2 J77 hp78 hp79 hp80).1 (e_ireturn mb_80 dX12_endRead_171 ri_80 (((((((h.2.2.2.2 q1a) q1b) q1c).2 J65 hp66 hp67 hp68).2 J69 hp70 hp71 hp72).2 J73 hp74 hp75 hp76).2 J77 hp78 hp79 hp80).2)))))))))))))))))))))))))))))))))))
theorem v_80 {sc : Nat × (Nat → Int)} {I : IH} {L : LH} {R : RH} {K : KH} {Q : AQ} {p : Nat} (hL : Lay R K) (hp : MOK I ∧ stM I = (p, true)) (h : ∀ (J : IH) (v : Int), FrM I J → stM J = ((endS (bM I) p).1, (endS (bM I) p).2.1) → MOK J → ((endS (bM I) p).2.1 = true → v = (endS (bM I) p).2.2) → Q (some (aI v)) J L R K) : E sc 80 0 [some (aR (some 77)), none] [] I L R K Q := by
  obtain ⟨hM, hst⟩ := hp
  have e1 := st_eta hst
  refine w_80_0 hL ?_
  rw [e1.1]
  generalize hb : bM I = b at *
  have eb : ∀ J, FrM I J → bM J = b := fun J f => by rw [bM_fr f, hb]
  refine ⟨hM, fun qh => ⟨⟨hM, by omega⟩, fun J1 f1 t1 m1 => ⟨⟨m1, by omega⟩, fun J2 f2 t2 m2 => ⟨⟨m2, by omega⟩, fun J3 f3 t3 m3 => ⟨⟨m3, by omega⟩, fun J4 f4 t4 m4 => ⟨⟨m4, by omega⟩, fun J5 f5 t5 m5 => ?_⟩⟩⟩⟩⟩, fun qo => ⟨⟨hM, by omega⟩, fun J1 f1 t1 m1 => ⟨⟨m1, by omega⟩, fun J2 f2 t2 m2 => ⟨⟨m2, by omega⟩, fun J3 f3 t3 m3 => ⟨⟨m3, by omega⟩, fun J4 f4 t4 m4 => ⟨⟨m4, by omega⟩, fun J5 f5 t5 m5 => ⟨⟨m5, rfl, by omega⟩, fun J6 f6 t6 m6 => ?_⟩⟩⟩⟩⟩⟩, fun qv => ⟨⟨hM, by omega⟩, fun J1 f1 t1 m1 => ⟨⟨m1, by omega⟩, fun J2 f2 t2 m2 => ⟨⟨m2, by omega⟩, fun J3 f3 t3 m3 => ⟨⟨m3, by omega⟩, fun J4 f4 t4 m4 => ?_⟩⟩⟩⟩, fun n1 n2 n3 => ⟨⟨hM, by omega⟩, fun J1 f1 t1 m1 => ⟨⟨m1, by omega⟩, fun J2 f2 t2 m2 => ⟨⟨m2, by omega⟩, fun J3 f3 t3 m3 => ⟨⟨m3, rfl, by omega⟩, fun J4 f4 t4 m4 => ⟨by have := dgV_b (b := bM J3) (S := stM J3) (show (51 : Int) ≤ 57 by omega); omega, ?_⟩⟩⟩⟩⟩⟩
  · have g2 := frm_t f1 f2
    have g3 := frm_t g2 f3
    have g4 := frm_t g3 f4
    have g5 := frm_t g4 f5
    have es : endS b p = ((wd b (strF 8) p).1, (wd b (strF 8) p).2, 1) := by unfold endS; rw [if_pos qh]
    have et : stM J5 = wd b (strF 8) p := by
      rw [t5, eb J4 g4, t4, eb J3 g3, t3, eb J2 g2, t2, eb J1 f1, t1, hst]
      exact eatL_wd [104, 111, 108, 100, 115] p
    exact h J5 1 g5 (by rw [es]; exact et) m5 (fun _ => by rw [es])
  · have g2 := frm_t f1 f2
    have g3 := frm_t g2 f3
    have g4 := frm_t g3 f4
    have g5 := frm_t g4 f5
    have g6 := frm_t g5 f6
    have et : stM J5 = wd b (strF 9) p := by
      rw [t5, eb J4 g4, t4, eb J3 g3, t3, eb J2 g2, t2, eb J1 f1, t1, hst]
      exact eatL_wd [111, 119, 101, 100, 32] p
    rw [eb J5 g5] at t6 ⊢
    have v1 := dgV_b (b := b) (S := stM J5) (show (57 : Int) ≤ 57 by omega)
    have v2 := dgV_b (b := b) (S := stM J6) (show (57 : Int) ≤ 57 by omega)
    rw [eb J6 g6]
    have b1 := dgt_b (b := b) (hi := 57) (p := (wd b (strF 9) p).1)
    have b2 := dgt_b (b := b) (hi := 57) (p := (dgt b 57 (wd b (strF 9) p).1).1)
    by_cases qw : (wd b (strF 9) p).2 = true
    · have et2 : stM J5 = ((wd b (strF 9) p).1, true) := by rw [et]; exact Prod.ext rfl qw
      have dt := dgS_t (b := b) (hi := 57) (p := (wd b (strF 9) p).1)
      rw [et2] at t6 v1 ⊢
      rw [dt.1] at t6
      by_cases qd : 0 ≤ (dgt b 57 (wd b (strF 9) p).1).2
      · have t6b : stM J6 = ((dgt b 57 (wd b (strF 9) p).1).1, true) := by rw [t6, decide_eq_true qd]
        have e6 := st_eta t6b
        have dt2 := dgS_t (b := b) (hi := 57) (p := (dgt b 57 (wd b (strF 9) p).1).1)
        have es : endS b p = ((dgt b 57 (dgt b 57 (wd b (strF 9) p).1).1).1, true, 100 + (if 0 ≤ (dgt b 57 (dgt b 57 (wd b (strF 9) p).1).1).2 then (dgt b 57 (wd b (strF 9) p).1).2 * 10 + (dgt b 57 (dgt b 57 (wd b (strF 9) p).1).1).2 else (dgt b 57 (wd b (strF 9) p).1).2)) := by
          unfold endS
          rw [if_neg (by omega), if_pos qo, if_pos qw, if_pos qd]
        have dv := dt.2 qd
        rw [t6b] at v2 ⊢
        refine ⟨fun q2 => absurd (e6.2.2.2 rfl) q2, fun q2 => ⟨m6, fun q3 => ⟨by omega, ⟨m6, rfl, by omega⟩, fun J7 f7 t7 m7 => ⟨by omega, by omega, ?_⟩⟩, fun q3 => ⟨by omega, ?_⟩⟩⟩
        · have qe : 0 ≤ (dgt b 57 (dgt b 57 (wd b (strF 9) p).1).1).2 := by
            by_cases g : 0 ≤ (dgt b 57 (dgt b 57 (wd b (strF 9) p).1).1).2
            · exact g
            · exact absurd q3 (b2.2.2.1 (by omega)).2
          rw [dt2.1, decide_eq_true qe] at t7
          refine h J7 _ (frm_t g6 f7) (by rw [es]; exact t7) m7 (fun _ => ?_)
          rw [es, dt2.2 qe, dv]
          dsimp only
          rw [if_pos qe]
          omega
        · have qe : ¬ 0 ≤ (dgt b 57 (dgt b 57 (wd b (strF 9) p).1).1).2 := fun g => q3 (b2.2.2.2 g).2.1
          refine h J6 _ g6 (by rw [es, t6b, (b2.2.2.1 (by omega)).1]) m6 (fun _ => ?_)
          rw [es, dv]
          dsimp only
          rw [if_neg qe]
      · have t6b : stM J6 = ((dgt b 57 (wd b (strF 9) p).1).1, false) := by rw [t6, decide_eq_false qd]
        have e6 := st_eta t6b
        have es : endS b p = ((wd b (strF 9) p).1, false, 0) := by
          unfold endS
          rw [if_neg (by omega), if_pos qo, if_pos qw, if_neg qd]
        refine ⟨fun q2 => ⟨by omega, h J6 _ g6 (by rw [es, t6b, (b1.2.2.1 (by omega)).1]) m6 (fun g => by rw [es] at g; cases g)⟩, fun q2 => by have := e6.2.2.1 q2; cases this⟩
    · have et2 : stM J5 = ((wd b (strF 9) p).1, false) := by rw [et]; exact Prod.ext rfl (by simpa using qw)
      rw [et2] at t6 v1 ⊢
      rw [dgS_f] at t6
      have e6 := st_eta t6
      have es : endS b p = ((wd b (strF 9) p).1, false, 0) := by
        unfold endS
        rw [if_neg (by omega), if_pos qo, if_neg qw]
      refine ⟨fun q2 => ⟨by omega, h J6 _ g6 (by rw [es, t6]) m6 (fun g => by rw [es] at g; cases g)⟩, fun q2 => by have := e6.2.2.1 q2; cases this⟩
  · have g2 := frm_t f1 f2
    have g3 := frm_t g2 f3
    have g4 := frm_t g3 f4
    have es : endS b p = ((wd b (strF 7) p).1, (wd b (strF 7) p).2, 0) := by unfold endS; rw [if_neg (by omega), if_neg (by omega), if_neg (by omega), if_pos qv]
    have et : stM J4 = wd b (strF 7) p := by
      rw [t4, eb J3 g3, t3, eb J2 g2, t2, eb J1 f1, t1, hst]
      exact eatL_wd [118, 111, 105, 100] p
    exact h J4 0 g4 (by rw [es]; exact et) m4 (fun _ => by rw [es])
  · have g2 := frm_t f1 f2
    have g3 := frm_t g2 f3
    have g4 := frm_t g3 f4
    have et : stM J3 = wd b (strF 10) p := by
      rw [t3, eb J2 g2, t2, eb J1 f1, t1, hst]
      exact eatL_wd [116, 111, 32] p
    rw [eb J3 g3] at t4 ⊢
    by_cases qt : b p = 116
    · by_cases qw : (wd b (strF 10) p).2 = true
      · have et2 : stM J3 = ((wd b (strF 10) p).1, true) := by rw [et]; exact Prod.ext rfl qw
        have dt := dgS_t (b := b) (hi := 51) (p := (wd b (strF 10) p).1)
        rw [et2] at t4 ⊢
        rw [dt.1] at t4
        have es : endS b p = ((dgt b 51 (wd b (strF 10) p).1).1, decide (0 ≤ (dgt b 51 (wd b (strF 10) p).1).2), 200 + (dgt b 51 (wd b (strF 10) p).1).2) := by
          unfold endS
          rw [if_neg (by omega), if_neg (by omega), if_pos qt, if_pos qw]
        exact h J4 _ g4 (by rw [es]; exact t4) m4 (fun g => by
          rw [es] at g ⊢
          have g : decide (0 ≤ (dgt b 51 (wd b (strF 10) p).1).2) = true := g
          rw [dt.2 (of_decide_eq_true g)])
      · have et2 : stM J3 = ((wd b (strF 10) p).1, false) := by rw [et]; exact Prod.ext rfl (by simpa using qw)
        rw [et2] at t4 ⊢
        rw [dgS_f] at t4
        have es : endS b p = ((wd b (strF 10) p).1, false, 0) := by
          unfold endS
          rw [if_neg (by omega), if_neg (by omega), if_pos qt, if_neg qw]
        exact h J4 _ g4 (by rw [es, t4]) m4 (fun g => by rw [es] at g; cases g)
    · have ew : wd b (strF 10) p = (p, false) := by
        show wd b (116 :: [111, 32]) p = _
        rw [wd, if_neg qt]
      rw [et, ew, dgS_f] at t4
      have es : endS b p = (p, false, 0) := by
        unfold endS
        rw [if_neg n1, if_neg n2, if_neg qt, if_neg n3]
      exact h J4 _ g4 (by rw [es, t4]) m4 (fun g => by rw [es] at g; cases g)
