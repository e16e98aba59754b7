/-! texts: the condition, as the class reads it -/
def aftS (b : Nat → Int) (len : Nat) : Nat → Nat → Nat × Bool × List Int
  | 0, p => (p, decide (len ≤ p), [])
  | k + 1, p => if len ≤ p then (p, true, []) else if (ltS b p).2.1 = true then ((aftS b len k (ltS b p).1).1, (aftS b len k (ltS b p).1).2.1, (ltS b p).2.2 :: (aftS b len k (ltS b p).1).2.2) else ((ltS b p).1, false, [])
def conT (b : Nat → Int) (len : Nat) (u : Int) (V : Nat × Bool) : Nat × Bool × Int × List Int :=
  if V.2 = true then
    if (testS b V.1).2.1 = true then ((aftS b len 4 (testS b V.1).1).1, (aftS b len 4 (testS b V.1).1).2.1, u, (testS b V.1).2.2 :: (aftS b len 4 (testS b V.1).1).2.2)
    else ((testS b V.1).1, false, u, [])
  else (V.1, false, u, [])
def conS (b : Nat → Int) (len p : Nat) : Nat × Bool × Int × List Int :=
  if (wd b (strF 11) p).2 = true then
    if b (wd b (strF 11) p).1 = 117 then conT b len 1 (wd b (strF 12) (wd b (strF 11) p).1)
    else conT b len 0 (wd b (strF 13) (wd b (strF 11) p).1)
  else ((wd b (strF 11) p).1, false, 0, [])
def FrD (d : Nat) (I J : IH) : Prop := ∀ a j : Nat, a ≠ d + 1 → a ≠ d + 2 → a ≠ d + 3 → ¬ (a = d ∧ (j = 5 ∨ j = 7 ∨ j = 9)) → J a j = I a j
theorem frd_a {d : Nat} {I J : IH} (h : FrA d I J) : FrD d I J := fun a j _ _ _ q => h a j (fun g => q ⟨g.1, .inr (.inl g.2)⟩)
theorem frd_t {d : Nat} {I J J2 : IH} (h : FrD d I J) (h2 : FrD d J J2) : FrD d I J2 := fun a j q1 q2 q3 q => (h2 a j q1 q2 q3 q).trans (h a j q1 q2 q3 q)
theorem frd_f {d : Nat} {I J : IH} (h : FrT d I J) : FrD d I J := fun a j q1 q2 q3 q => h a j (by omega) (by omega)
def Done (J : IH) (d : Nat) (cs : List Int) : Prop := J d 9 = (cs.length : Int) ∧ ∀ k : Nat, k < cs.length → CodeAt J d k (cs.getD k 0)
theorem getD_l {cs : List Int} {C : Int} {k : Nat} (h : k < cs.length) : (cs ++ [C]).getD k 0 = cs.getD k 0 := by
  induction cs generalizing k with
  | nil => exact absurd h (Nat.not_lt_zero _)
  | cons x cs ih =>
    cases k with
    | zero => rfl
    | succ k => exact ih (Nat.lt_of_succ_lt_succ h)
theorem getD_r {cs : List Int} {C : Int} : (cs ++ [C]).getD cs.length 0 = C := by
  induction cs with
  | nil => rfl
  | cons x cs ih => exact ih
theorem done_step {d : Nat} {C : Int} {I J : IH} {cs : List Int} (h : Done I d cs) (f : FrT d I J) (hn : DnOK d C I J) : Done J d (cs ++ [C]) := by
  obtain ⟨h1, h2⟩ := h
  obtain ⟨n1, n2⟩ := hn
  have el : (cs ++ [C]).length = cs.length + 1 := by rw [List.length_append]; rfl
  refine ⟨by rw [n1, h1, el]; omega, fun k hk => ?_⟩
  rw [el] at hk
  by_cases q : k < cs.length
  · rw [getD_l q]
    have := h2 k q
    unfold CodeAt at this ⊢
    rw [f (d + 1) k (by omega) (by omega), f (d + 2) k (by omega) (by omega), f (d + 3) k (by omega) (by omega)]
    exact this
  · have : k = cs.length := by omega
    subst this
    rw [getD_r]
    rw [h1, Int.toNat_natCast] at n2
    exact n2
theorem at_5 {d : Nat} {J : IH} {v : Int} (h : AtOK J d) : AtOK (setF J d 5 v) d := by
  obtain ⟨a1, a2, a3⟩ := h
  refine ⟨?_, ?_, ?_⟩
  · rw [setF_n (by omega)]; exact a1
  · rw [setF_n (by omega), setF_n (by omega)]; exact a2
  · rw [setF_n (by omega)]; exact a3
theorem w_285_0 {sc : Nat × (Nat → Int)} {I : IH} {L : LH} {R : RH} {K : KH} {Q : AQ} {d : Nat} (hL : Lay R K) (h : ((K.1 d = 9) ∧ (DraftAt R K d ∧ AtOK I d ∧ 1 ≤ 11 ∧ 11 < 17)) ∧ (∀ (J1 : IH), (FrA d I J1) → (J1 d 7 = ((wd (bJ I d) (strF 11) (I d 7).toNat).1 : Int)) → (AtOK J1 d) → (((wd (bJ I d) (strF 11) (I d 7).toNat).2 = true → (K.1 d = 9 ∧ (DraftAt R K d ∧ AtOK J1 d)) ∧ (((bJ J1 d (J1 d 7).toNat) ≠ 117 → (K.1 d = 9) ∧ (K.1 d = 9) ∧ ((K.1 d = 9) ∧ (DraftAt R K d ∧ AtOK (setF J1 d 5 0) d ∧ 1 ≤ 13 ∧ 13 < 17)) ∧ (∀ (J5 : IH), (FrA d (setF J1 d 5 0) J5) → (J5 d 7 = ((wd (bJ (setF J1 d 5 0) d) (strF 13) ((setF J1 d 5 0) d 7).toNat).1 : Int)) → (AtOK J5 d) → (((wd (bJ (setF J1 d 5 0) d) (strF 13) ((setF J1 d 5 0) d 7).toNat).2 = true → ((K.1 d = 9) ∧ (DraftAt R K d ∧ AtOK J5 d ∧ ((0 : Int) ≤ J5 d 9 ∧ J5 d 9 < 5) ∧ (0 = (0 : Int) ∨ 0 = (1 : Int)))) ∧ (∀ (J9 : IH), (FrT d J5 J9) → (J9 d 7 = ((testS (bJ J5 d) (J5 d 7).toNat).1 : Int)) → (AtOK J9 d) → ((testS (bJ J5 d) (J5 d 7).toNat).2.1 = true → TstOK d 0 (testS (bJ J5 d) (J5 d 7).toNat).2.2 J5 J9) → (((testS (bJ J5 d) (J5 d 7).toNat).2.1 = true → E sc 285 66 [some (aR (some d)), some (aI 1), some (aI 1)] [] J9 L R K Q) ∧ (¬((testS (bJ J5 d) (J5 d 7).toNat).2.1 = true) → E sc 285 66 [some (aR (some d)), some (aI 0), some (aI 1)] [] J9 L R K Q)))) ∧ (¬((wd (bJ (setF J1 d 5 0) d) (strF 13) ((setF J1 d 5 0) d 7).toNat).2 = true) → E sc 285 66 [some (aR (some d)), some (aI 0), some (aI 1)] [] J5 L R K Q)))) ∧ ((bJ J1 d (J1 d 7).toNat) = 117 → (K.1 d = 9) ∧ (K.1 d = 9) ∧ ((K.1 d = 9) ∧ (DraftAt R K d ∧ AtOK (setF J1 d 5 1) d ∧ 1 ≤ 12 ∧ 12 < 17)) ∧ (∀ (J14 : IH), (FrA d (setF J1 d 5 1) J14) → (J14 d 7 = ((wd (bJ (setF J1 d 5 1) d) (strF 12) ((setF J1 d 5 1) d 7).toNat).1 : Int)) → (AtOK J14 d) → (((wd (bJ (setF J1 d 5 1) d) (strF 12) ((setF J1 d 5 1) d 7).toNat).2 = true → ((K.1 d = 9) ∧ (DraftAt R K d ∧ AtOK J14 d ∧ ((0 : Int) ≤ J14 d 9 ∧ J14 d 9 < 5) ∧ (0 = (0 : Int) ∨ 0 = (1 : Int)))) ∧ (∀ (J18 : IH), (FrT d J14 J18) → (J18 d 7 = ((testS (bJ J14 d) (J14 d 7).toNat).1 : Int)) → (AtOK J18 d) → ((testS (bJ J14 d) (J14 d 7).toNat).2.1 = true → TstOK d 0 (testS (bJ J14 d) (J14 d 7).toNat).2.2 J14 J18) → (((testS (bJ J14 d) (J14 d 7).toNat).2.1 = true → E sc 285 66 [some (aR (some d)), some (aI 1), some (aI 1)] [] J18 L R K Q) ∧ (¬((testS (bJ J14 d) (J14 d 7).toNat).2.1 = true) → E sc 285 66 [some (aR (some d)), some (aI 0), some (aI 1)] [] J18 L R K Q)))) ∧ (¬((wd (bJ (setF J1 d 5 1) d) (strF 12) ((setF J1 d 5 1) d 7).toNat).2 = true) → E sc 285 66 [some (aR (some d)), some (aI 0), some (aI 1)] [] J14 L R K Q)))))) ∧ (¬((wd (bJ I d) (strF 11) (I d 7).toNat).2 = true) → Q (some (aI 0)) J1 L R K)))) : E sc 285 0 [some (aR (some d)), none, none] [] I L R K Q :=
  e_aload_n mb_285 dX9_readCondition_0 rfl (e_ldc mb_285 dX9_readCondition_1 (by rw [mf_285.1]; exact ls_36963) rfl (e_callV mb_285 dX9_readCondition_3 mf_285 mf_292 cs_36943 rfl rfl rfl rfl h.1.1 rfl (v_292 hL h.1.2 (fun J1 hp2 hp3 hp4 => (show E _ _ _ _ [aI (b2i ((wd (bJ I d) (strF 11) (I d 7).toNat).2 = true))] _ _ _ _ _ from e_ifb_ne mb_285 dX9_readCondition_6 rfl ⟨fun q1 => e_aload_n mb_285 dX9_readCondition_11 rfl (e_aload_n mb_285 dX9_readCondition_12 rfl (e_callV mb_285 dX9_readCondition_13 mf_285 mf_291 cs_36937 rfl rfl rfl rfl ((h.2 J1 hp2 hp3 hp4).1 q1).1.1 rfl (v_291 hL ((h.2 J1 hp2 hp3 hp4).1 q1).1.2 (show E _ _ _ _ (_ :: _) _ _ _ _ _ from e_bipush mb_285 dX9_readCondition_16 cv_bipush_117 (e_icmp mb_285 dX9_readCondition_18 rfl (fun q2 => e_iconst mb_285 dX9_readCondition_25 cv_iconst_0 (e_putb mb_285 dX9_readCondition_26 mf_285.1 fs_36912 fk_9_5 (Or.inl ff_9_5) (((h.2 J1 hp2 hp3 hp4).1 q1).2.1 (cb_ne.1.mp q2)).1 (Or.inl rfl) (e_aload_n mb_285 dX9_readCondition_29 rfl (e_aload_n mb_285 dX9_readCondition_30 rfl (e_getv mb_285 dX9_readCondition_31 mf_285.1 fs_36912 (Or.inr fk_9_5) (((h.2 J1 hp2 hp3 hp4).1 q1).2.1 (cb_ne.1.mp q2)).2.1 setF_s (e_if mb_285 dX9_readCondition_34 rfl (fun _ => e_ldc mb_285 dX9_readCondition_42 (by rw [mf_285.1]; exact ls_36967) rfl (e_callV mb_285 dX9_readCondition_44 mf_285 mf_292 cs_36943 rfl rfl rfl rfl (((h.2 J1 hp2 hp3 hp4).1 q1).2.1 (cb_ne.1.mp q2)).2.2.1.1 rfl (v_292 hL (((h.2 J1 hp2 hp3 hp4).1 q1).2.1 (cb_ne.1.mp q2)).2.2.1.2 (fun J5 hp6 hp7 hp8 => (show E _ _ _ _ [aI (b2i ((wd (bJ (setF J1 d 5 0) d) (strF 13) ((setF J1 d 5 0) d 7).toNat).2 = true))] _ _ _ _ _ from e_ifb_eq mb_285 dX9_readCondition_47 rfl ⟨fun q3 => e_aload_n mb_285 dX9_readCondition_50 rfl (e_iconst mb_285 dX9_readCondition_51 cv_iconst_0 (e_callV mb_285 dX9_readCondition_52 mf_285 mf_287 cs_36969 rfl rfl rfl rfl (((((h.2 J1 hp2 hp3 hp4).1 q1).2.1 (cb_ne.1.mp q2)).2.2.2 J5 hp6 hp7 hp8).1 q3).1.1 rfl (v_287 hL (((((h.2 J1 hp2 hp3 hp4).1 q1).2.1 (cb_ne.1.mp q2)).2.2.2 J5 hp6 hp7 hp8).1 q3).1.2 (fun J9 hp10 hp11 hp12 hp13 => (show E _ _ _ _ [aI (b2i ((testS (bJ J5 d) (J5 d 7).toNat).2.1 = true))] _ _ _ _ _ from e_ifb_eq mb_285 dX9_readCondition_55 rfl ⟨fun q4 => e_iconst mb_285 dX9_readCondition_58 cv_iconst_1 (e_goto mb_285 dX9_readCondition_59 rfl (e_istore_n (l1 := [some (aR (some d)), some (aI 1), none]) mb_285 dX9_readCondition_63 rfl (e_iconst mb_285 dX9_readCondition_64 cv_iconst_1 (e_istore_n (l1 := [some (aR (some d)), some (aI 1), some (aI 1)]) mb_285 dX9_readCondition_65 rfl ((((((((h.2 J1 hp2 hp3 hp4).1 q1).2.1 (cb_ne.1.mp q2)).2.2.2 J5 hp6 hp7 hp8).1 q3).2 J9 hp10 hp11 hp12 hp13).1 q4)))))), fun q4 => e_iconst mb_285 dX9_readCondition_62 cv_iconst_0 (e_istore_n (l1 := [some (aR (some d)), some (aI 0), none]) mb_285 dX9_readCondition_63 rfl (e_iconst mb_285 dX9_readCondition_64 cv_iconst_1 (e_istore_n (l1 := [some (aR (some d)), some (aI 0), some (aI 1)]) mb_285 dX9_readCondition_65 rfl ((((((((h.2 J1 hp2 hp3 hp4).1 q1).2.1 (cb_ne.1.mp q2)).2.2.2 J5 hp6 hp7 hp8).1 q3).2 J9 hp10 hp11 hp12 hp13).2 q4)))))⟩))))), fun q3 => e_iconst mb_285 dX9_readCondition_62 cv_iconst_0 (e_istore_n (l1 := [some (aR (some d)), some (aI 0), none]) mb_285 dX9_readCondition_63 rfl (e_iconst mb_285 dX9_readCondition_64 cv_iconst_1 (e_istore_n (l1 := [some (aR (some d)), some (aI 0), some (aI 1)]) mb_285 dX9_readCondition_65 rfl ((((((h.2 J1 hp2 hp3 hp4).1 q1).2.1 (cb_ne.1.mp q2)).2.2.2 J5 hp6 hp7 hp8).2 q3)))))⟩))))) (fun q => absurd q (by decide)))))))) (fun q2 => e_iconst mb_285 dX9_readCondition_21 cv_iconst_1 (e_goto mb_285 dX9_readCondition_22 rfl (e_putb mb_285 dX9_readCondition_26 mf_285.1 fs_36912 fk_9_5 (Or.inl ff_9_5) (((h.2 J1 hp2 hp3 hp4).1 q1).2.2 (cb_ne.2.mp q2)).1 (Or.inr rfl) (e_aload_n mb_285 dX9_readCondition_29 rfl (e_aload_n mb_285 dX9_readCondition_30 rfl (e_getv mb_285 dX9_readCondition_31 mf_285.1 fs_36912 (Or.inr fk_9_5) (((h.2 J1 hp2 hp3 hp4).1 q1).2.2 (cb_ne.2.mp q2)).2.1 setF_s (e_if mb_285 dX9_readCondition_34 rfl (fun q => absurd q (by decide)) (fun _ => e_ldc mb_285 dX9_readCondition_37 (by rw [mf_285.1]; exact ls_36965) rfl (e_goto mb_285 dX9_readCondition_39 rfl (e_callV mb_285 dX9_readCondition_44 mf_285 mf_292 cs_36943 rfl rfl rfl rfl (((h.2 J1 hp2 hp3 hp4).1 q1).2.2 (cb_ne.2.mp q2)).2.2.1.1 rfl (v_292 hL (((h.2 J1 hp2 hp3 hp4).1 q1).2.2 (cb_ne.2.mp q2)).2.2.1.2 (fun J14 hp15 hp16 hp17 => (show E _ _ _ _ [aI (b2i ((wd (bJ (setF J1 d 5 1) d) (strF 12) ((setF J1 d 5 1) d 7).toNat).2 = true))] _ _ _ _ _ from e_ifb_eq mb_285 dX9_readCondition_47 rfl ⟨fun q5 => e_aload_n mb_285 dX9_readCondition_50 rfl (e_iconst mb_285 dX9_readCondition_51 cv_iconst_0 (e_callV mb_285 dX9_readCondition_52 mf_285 mf_287 cs_36969 rfl rfl rfl rfl (((((h.2 J1 hp2 hp3 hp4).1 q1).2.2 (cb_ne.2.mp q2)).2.2.2 J14 hp15 hp16 hp17).1 q5).1.1 rfl (v_287 hL (((((h.2 J1 hp2 hp3 hp4).1 q1).2.2 (cb_ne.2.mp q2)).2.2.2 J14 hp15 hp16 hp17).1 q5).1.2 (fun J18 hp19 hp20 hp21 hp22 => (show E _ _ _ _ [aI (b2i ((testS (bJ J14 d) (J14 d 7).toNat).2.1 = true))] _ _ _ _ _ from e_ifb_eq mb_285 dX9_readCondition_55 rfl ⟨fun q6 => e_iconst mb_285 dX9_readCondition_58 cv_iconst_1 (e_goto mb_285 dX9_readCondition_59 rfl (e_istore_n (l1 := [some (aR (some d)), some (aI 1), none]) mb_285 dX9_readCondition_63 rfl (e_iconst mb_285 dX9_readCondition_64 cv_iconst_1 (e_istore_n (l1 := [some (aR (some d)), some (aI 1), some (aI 1)]) mb_285 dX9_readCondition_65 rfl ((((((((h.2 J1 hp2 hp3 hp4).1 q1).2.2 (cb_ne.2.mp q2)).2.2.2 J14 hp15 hp16 hp17).1 q5).2 J18 hp19 hp20 hp21 hp22).1 q6)))))), fun q6 => e_iconst mb_285 dX9_readCondition_62 cv_iconst_0 (e_istore_n (l1 := [some (aR (some d)), some (aI 0), none]) mb_285 dX9_readCondition_63 rfl (e_iconst mb_285 dX9_readCondition_64 cv_iconst_1 (e_istore_n (l1 := [some (aR (some d)), some (aI 0), some (aI 1)]) mb_285 dX9_readCondition_65 rfl ((((((((h.2 J1 hp2 hp3 hp4).1 q1).2.2 (cb_ne.2.mp q2)).2.2.2 J14 hp15 hp16 hp17).1 q5).2 J18 hp19 hp20 hp21 hp22).2 q6)))))⟩))))), fun q5 => e_iconst mb_285 dX9_readCondition_62 cv_iconst_0 (e_istore_n (l1 := [some (aR (some d)), some (aI 0), none]) mb_285 dX9_readCondition_63 rfl (e_iconst mb_285 dX9_readCondition_64 cv_iconst_1 (e_istore_n (l1 := [some (aR (some d)), some (aI 0), some (aI 1)]) mb_285 dX9_readCondition_65 rfl ((((((h.2 J1 hp2 hp3 hp4).1 q1).2.2 (cb_ne.2.mp q2)).2.2.2 J14 hp15 hp16 hp17).2 q5)))))⟩)))))))))))))))))), fun q1 => e_iconst mb_285 dX9_readCondition_9 cv_iconst_0 (e_ireturn mb_285 dX9_readCondition_10 (ri_285 (Or.inl rfl)) ((h.2 J1 hp2 hp3 hp4).2 q1))⟩)))))
theorem w_285_66 {sc : Nat × (Nat → Int)} {I : IH} {L : LH} {R : RH} {K : KH} {Q : AQ} {x1 x2 : Int} {r0 : Nat} (hL : Lay R K) (h : ((5 ≤ x2 → ((x1 = 0 → Q (some (aI 0)) I L R K) ∧ (x1 ≠ 0 → (K.1 r0 = 9) ∧ (K.1 r0 = 9) ∧ (((I r0 7) ≠ (I r0 6) → Q (some (aI 0)) I L R K) ∧ ((I r0 7) = (I r0 6) → Q (some (aI 1)) I L R K))))) ∧ (x2 < 5 → ((x1 = 0 → ((x1 = 0 → Q (some (aI 0)) I L R K) ∧ (x1 ≠ 0 → (K.1 r0 = 9) ∧ (K.1 r0 = 9) ∧ (((I r0 7) ≠ (I r0 6) → Q (some (aI 0)) I L R K) ∧ ((I r0 7) = (I r0 6) → Q (some (aI 1)) I L R K))))) ∧ (x1 ≠ 0 → (K.1 r0 = 9) ∧ (K.1 r0 = 9) ∧ (((I r0 6) ≤ (I r0 7) → ((x1 = 0 → Q (some (aI 0)) I L R K) ∧ (x1 ≠ 0 → (K.1 r0 = 9) ∧ (K.1 r0 = 9) ∧ (((I r0 7) ≠ (I r0 6) → Q (some (aI 0)) I L R K) ∧ ((I r0 7) = (I r0 6) → Q (some (aI 1)) I L R K))))) ∧ ((I r0 7) < (I r0 6) → ((K.1 r0 = 9) ∧ (DraftAt R K r0 ∧ AtOK I r0 ∧ ((0 : Int) ≤ I r0 9 ∧ I r0 9 < 5))) ∧ (∀ (J23 : IH), (FrT r0 I J23) → (J23 r0 7 = ((ltS (bJ I r0) (I r0 7).toNat).1 : Int)) → (AtOK J23 r0) → ((ltS (bJ I r0) (I r0 7).toNat).2.1 = true → DnOK r0 (ltS (bJ I r0) (I r0 7).toNat).2.2 I J23) → ((-2147483648 : Int) ≤ x2 + 1 ∧ x2 + 1 < (2147483648 : Int)) ∧ E sc 285 66 [some (aR (some r0)), some (aI (b2i ((ltS (bJ I r0) (I r0 7).toNat).2.1 = true))), some (aI (x2 + 1))] [] J23 L R K Q)))))))) : E sc 285 66 [some (aR (some r0)), some (aI x1), some (aI x2)] [] I L R K Q :=
  e_iload_n mb_285 dX9_readCondition_66 rfl (e_iconst mb_285 dX9_readCondition_67 cv_iconst_5 (e_icmp mb_285 dX9_readCondition_68 rfl (fun q1 => e_iload_n mb_285 dX9_readCondition_97 rfl (e_if mb_285 dX9_readCondition_98 rfl (fun q2 => e_iconst mb_285 dX9_readCondition_116 cv_iconst_0 (e_ireturn mb_285 dX9_readCondition_117 (ri_285 (Or.inl rfl)) ((h.1 (cb_ge.1.mp q1)).1 (cb_eq.1.mp q2)))) (fun q2 => e_aload_n mb_285 dX9_readCondition_101 rfl (e_getv mb_285 dX9_readCondition_102 mf_285.1 fs_36906 (Or.inl fk_9_7) ((h.1 (cb_ge.1.mp q1)).2 (cb_eq.2.mp q2)).1 rfl (e_aload_n mb_285 dX9_readCondition_105 rfl (e_getv mb_285 dX9_readCondition_106 mf_285.1 fs_36902 (Or.inl fk_9_6) ((h.1 (cb_ge.1.mp q1)).2 (cb_eq.2.mp q2)).2.1 rfl (e_icmp mb_285 dX9_readCondition_109 rfl (fun q3 => e_iconst mb_285 dX9_readCondition_116 cv_iconst_0 (e_ireturn mb_285 dX9_readCondition_117 (ri_285 (Or.inl rfl)) (((h.1 (cb_ge.1.mp q1)).2 (cb_eq.2.mp q2)).2.2.1 (cb_ne.1.mp q3)))) (fun q3 => e_iconst mb_285 dX9_readCondition_112 cv_iconst_1 (e_goto mb_285 dX9_readCondition_113 rfl (e_ireturn mb_285 dX9_readCondition_117 (ri_285 (Or.inr rfl)) (((h.1 (cb_ge.1.mp q1)).2 (cb_eq.2.mp q2)).2.2.2 (cb_ne.2.mp q3)))))))))))) (fun q1 => e_iload_n mb_285 dX9_readCondition_71 rfl (e_if mb_285 dX9_readCondition_72 rfl (fun q4 => e_iload_n mb_285 dX9_readCondition_97 rfl (e_if mb_285 dX9_readCondition_98 rfl (fun q5 => e_iconst mb_285 dX9_readCondition_116 cv_iconst_0 (e_ireturn mb_285 dX9_readCondition_117 (ri_285 (Or.inl rfl)) (((h.2 (cb_ge.2.mp q1)).1 (cb_eq.1.mp q4)).1 (cb_eq.1.mp q5)))) (fun q5 => e_aload_n mb_285 dX9_readCondition_101 rfl (e_getv mb_285 dX9_readCondition_102 mf_285.1 fs_36906 (Or.inl fk_9_7) (((h.2 (cb_ge.2.mp q1)).1 (cb_eq.1.mp q4)).2 (cb_eq.2.mp q5)).1 rfl (e_aload_n mb_285 dX9_readCondition_105 rfl (e_getv mb_285 dX9_readCondition_106 mf_285.1 fs_36902 (Or.inl fk_9_6) (((h.2 (cb_ge.2.mp q1)).1 (cb_eq.1.mp q4)).2 (cb_eq.2.mp q5)).2.1 rfl (e_icmp mb_285 dX9_readCondition_109 rfl (fun q6 => e_iconst mb_285 dX9_readCondition_116 cv_iconst_0 (e_ireturn mb_285 dX9_readCondition_117 (ri_285 (Or.inl rfl)) ((((h.2 (cb_ge.2.mp q1)).1 (cb_eq.1.mp q4)).2 (cb_eq.2.mp q5)).2.2.1 (cb_ne.1.mp q6)))) (fun q6 => e_iconst mb_285 dX9_readCondition_112 cv_iconst_1 (e_goto mb_285 dX9_readCondition_113 rfl (e_ireturn mb_285 dX9_readCondition_117 (ri_285 (Or.inr rfl)) ((((h.2 (cb_ge.2.mp q1)).1 (cb_eq.1.mp q4)).2 (cb_eq.2.mp q5)).2.2.2 (cb_ne.2.mp q6)))))))))))) (fun q4 => e_aload_n mb_285 dX9_readCondition_75 rfl (e_getv mb_285 dX9_readCondition_76 mf_285.1 fs_36906 (Or.inl fk_9_7) ((h.2 (cb_ge.2.mp q1)).2 (cb_eq.2.mp q4)).1 rfl (e_aload_n mb_285 dX9_readCondition_79 rfl (e_getv mb_285 dX9_readCondition_80 mf_285.1 fs_36902 (Or.inl fk_9_6) ((h.2 (cb_ge.2.mp q1)).2 (cb_eq.2.mp q4)).2.1 rfl (e_icmp mb_285 dX9_readCondition_83 rfl (fun q7 => e_iload_n mb_285 dX9_readCondition_97 rfl (e_if mb_285 dX9_readCondition_98 rfl (fun q8 => e_iconst mb_285 dX9_readCondition_116 cv_iconst_0 (e_ireturn mb_285 dX9_readCondition_117 (ri_285 (Or.inl rfl)) ((((h.2 (cb_ge.2.mp q1)).2 (cb_eq.2.mp q4)).2.2.1 (cb_ge.1.mp q7)).1 (cb_eq.1.mp q8)))) (fun q8 => e_aload_n mb_285 dX9_readCondition_101 rfl (e_getv mb_285 dX9_readCondition_102 mf_285.1 fs_36906 (Or.inl fk_9_7) ((((h.2 (cb_ge.2.mp q1)).2 (cb_eq.2.mp q4)).2.2.1 (cb_ge.1.mp q7)).2 (cb_eq.2.mp q8)).1 rfl (e_aload_n mb_285 dX9_readCondition_105 rfl (e_getv mb_285 dX9_readCondition_106 mf_285.1 fs_36902 (Or.inl fk_9_6) ((((h.2 (cb_ge.2.mp q1)).2 (cb_eq.2.mp q4)).2.2.1 (cb_ge.1.mp q7)).2 (cb_eq.2.mp q8)).2.1 rfl (e_icmp mb_285 dX9_readCondition_109 rfl (fun q9 => e_iconst mb_285 dX9_readCondition_116 cv_iconst_0 (e_ireturn mb_285 dX9_readCondition_117 (ri_285 (Or.inl rfl)) (((((h.2 (cb_ge.2.mp q1)).2 (cb_eq.2.mp q4)).2.2.1 (cb_ge.1.mp q7)).2 (cb_eq.2.mp q8)).2.2.1 (cb_ne.1.mp q9)))) (fun q9 => e_iconst mb_285 dX9_readCondition_112 cv_iconst_1 (e_goto mb_285 dX9_readCondition_113 rfl (e_ireturn mb_285 dX9_readCondition_117 (ri_285 (Or.inr rfl)) (((((h.2 (cb_ge.2.mp q1)).2 (cb_eq.2.mp q4)).2.2.1 (cb_ge.1.mp q7)).2 (cb_eq.2.mp q8)).2.2.2 (cb_ne.2.mp q9)))))))))))) (fun q7 => e_aload_n mb_285 dX9_readCondition_86 rfl (e_callV mb_285 dX9_readCondition_87 mf_285 mf_286 cs_36973 rfl rfl rfl rfl (((h.2 (cb_ge.2.mp q1)).2 (cb_eq.2.mp q4)).2.2.2 (cb_ge.2.mp q7)).1.1 rfl (v_286 hL (((h.2 (cb_ge.2.mp q1)).2 (cb_eq.2.mp q4)).2.2.2 (cb_ge.2.mp q7)).1.2 (fun J23 hp24 hp25 hp26 hp27 => (show E _ _ _ _ [aI (b2i ((ltS (bJ I r0) (I r0 7).toNat).2.1 = true))] _ _ _ _ _ from e_istore_n (l1 := [some (aR (some r0)), some (aI (b2i ((ltS (bJ I r0) (I r0 7).toNat).2.1 = true))), some (aI x2)]) mb_285 dX9_readCondition_90 rfl (e_iinc (l1 := [some (aR (some r0)), some (aI (b2i ((ltS (bJ I r0) (I r0 7).toNat).2.1 = true))), some (aI (x2 + 1))]) mb_285 dX9_readCondition_91 rfl ((((h.2 (cb_ge.2.mp q1)).2 (cb_eq.2.mp q4)).2.2.2 (cb_ge.2.mp q7)).2 J23 hp24 hp25 hp26 hp27).1 rfl (e_goto mb_285 dX9_readCondition_94 rfl (((((h.2 (cb_ge.2.mp q1)).2 (cb_eq.2.mp q4)).2.2.2 (cb_ge.2.mp q7)).2 J23 hp24 hp25 hp26 hp27).2)))))))))))))))))
theorem v_285 {sc : Nat × (Nat → Int)} {I : IH} {L : LH} {R : RH} {K : KH} {Q : AQ} {d : Nat} (hL : Lay R K) (hp : DraftAt R K d ∧ AtOK I d ∧ I d 9 = 0) (h : ∀ J, FrD d I J → J d 7 = ((conS (bJ I d) (I d 6).toNat (I d 7).toNat).1 : Int) → AtOK J d → ((conS (bJ I d) (I d 6).toNat (I d 7).toNat).2.1 = true → J d 5 = (conS (bJ I d) (I d 6).toNat (I d 7).toNat).2.2.1 ∧ Done J d (conS (bJ I d) (I d 6).toNat (I d 7).toNat).2.2.2) → Q (some (aI (b2i ((conS (bJ I d) (I d 6).toNat (I d 7).toNat).2.1 = true)))) J L R K) : E sc 285 0 [some (aR (some d)), none, none] [] I L R K Q := by
  obtain ⟨hd, hA, h9⟩ := hp
  have hne := dr_ne hd
  have tn : ∀ n : Nat, ((n : Nat) : Int).toNat = n := fun n => Int.toNat_natCast n
  have l6 : I d 6 = (((I d 6).toNat : Nat) : Int) := by have := hA.1; have := hA.2.1; omega
  generalize hp0 : (I d 7).toNat = p at *
  generalize hl0 : (I d 6).toNat = len at *
  have eD : ∀ J, FrD d I J → bJ J d = bJ I d := fun J f => by
    funext p
    unfold bJ
    rw [f d 6 (by omega) (by omega) (by omega) (by omega), f 1 p (by omega) (by omega) (by omega) (by omega)]
  generalize hb : bJ I d = b at *
  have stop : ∀ (J : IH) (x : Int), Q (some (aI 0)) J L R K → E sc 285 66 [some (aR (some d)), some (aI 0), some (aI x)] [] J L R K Q := fun J x hq => w_285_66 hL ⟨fun _ => ⟨fun _ => hq, fun n => absurd rfl n⟩, fun _ => ⟨fun _ => ⟨fun _ => hq, fun n => absurd rfl n⟩, fun n => absurd rfl n⟩⟩
  have key : ∀ (k : Nat) (x : Int) (p : Nat) (cs : List Int) (J : IH), x = 5 - (k : Int) → FrD d I J → AtOK J d → J d 7 = (p : Int) → Done J d cs → cs.length + k = 5 → (∀ J', FrD d I J' → J' d 7 = ((aftS b len k p).1 : Int) → AtOK J' d → J' d 5 = J d 5 → ((aftS b len k p).2.1 = true → Done J' d (cs ++ (aftS b len k p).2.2)) → Q (some (aI (b2i ((aftS b len k p).2.1 = true)))) J' L R K) → E sc 285 66 [some (aR (some d)), some (aI 1), some (aI x)] [] J L R K Q := by
    intro k
    induction k with
    | zero =>
      intro x p cs J hx fr a7 t7 dn hl2 hq
      have J6 : J d 6 = I d 6 := fr d 6 (by omega) (by omega) (by omega) (by omega)
      have e : aftS b len 0 p = (p, decide (len ≤ p), []) := rfl
      rw [e] at hq
      refine w_285_66 hL ⟨fun q => ⟨fun q => by omega, fun _ => ⟨hd.1, hd.1, fun ne => ?_, fun eq => ?_⟩⟩, fun q => by omega⟩
      · have e2 : decide (len ≤ p) = false := decide_eq_false (by have := a7.2.1; omega)
        rw [e2] at hq
        exact hq J fr t7 a7 rfl (fun g => by cases g)
      · have e2 : decide (len ≤ p) = true := decide_eq_true (by omega)
        rw [e2] at hq
        exact hq J fr t7 a7 rfl (fun _ => by rw [List.append_nil]; exact dn)
    | succ k ih =>
      intro x p cs J hx fr a7 t7 dn hl2 hq
      have J6 : J d 6 = I d 6 := fr d 6 (by omega) (by omega) (by omega) (by omega)
      have J9 := dn.1
      have tp : (J d 7).toNat = p := by rw [t7]; exact tn p
      refine w_285_66 hL ⟨fun q => by omega, fun q => ⟨fun q0 => by omega, fun _ => ⟨hd.1, hd.1, fun ge => ⟨fun q0 => by omega, fun _ => ⟨hd.1, hd.1, fun ne => ?_, fun eq => ?_⟩⟩, fun lt => ⟨⟨hd.1, hd, a7, by omega, by omega⟩, fun J2 f2 t2 a2 c2 => ⟨by omega, ?_⟩⟩⟩⟩⟩
      · have := a7.2.1; omega
      · have e : aftS b len (k + 1) p = (p, true, []) := by rw [aftS, if_pos (by omega)]
        rw [e] at hq
        exact hq J fr t7 a7 rfl (fun _ => by rw [List.append_nil]; exact dn)
      · rw [eD J fr, tp] at t2 c2 ⊢
        have e : aftS b len (k + 1) p = if (ltS b p).2.1 = true then ((aftS b len k (ltS b p).1).1, (aftS b len k (ltS b p).1).2.1, (ltS b p).2.2 :: (aftS b len k (ltS b p).1).2.2) else ((ltS b p).1, false, []) := by rw [aftS, if_neg (by omega)]
        have fr2 : FrD d I J2 := frd_t fr (frd_f f2)
        have u5 : J2 d 5 = J d 5 := f2 d 5 (by omega) (by omega)
        by_cases g : (ltS b p).2.1 = true
        · rw [if_pos g] at e
          rw [e] at hq
          rw [g]
          refine ih (x + 1) (ltS b p).1 (cs ++ [(ltS b p).2.2]) J2 (by omega) fr2 a2 t2 (done_step dn f2 (c2 g)) (by rw [List.length_append, List.length_singleton]; omega) (fun J' h1 h2 h3 h4 h5 => hq J' h1 h2 h3 (h4.trans u5) (fun g2 => ?_))
          have := h5 g2
          rw [List.append_assoc] at this
          exact this
        · rw [if_neg g] at e
          rw [e] at hq
          rw [show (ltS b p).2.1 = false by simpa using g]
          exact stop J2 _ (hq J2 fr2 t2 a2 u5 (fun g => by cases g))
  have arm : ∀ (u : Int) (V : Nat × Bool), conS b len p = conT b len u V → ∀ J2 : IH, FrD d I J2 → AtOK J2 d → J2 d 7 = (V.1 : Int) → J2 d 5 = u → J2 d 9 = 0 →
      (V.2 = true → ∀ J3 : IH, FrT d J2 J3 → J3 d 7 = ((testS b V.1).1 : Int) → AtOK J3 d → ((testS b V.1).2.1 = true → TstOK d 0 (testS b V.1).2.2 J2 J3) → ((testS b V.1).2.1 = true → E sc 285 66 [some (aR (some d)), some (aI 1), some (aI 1)] [] J3 L R K Q) ∧ (¬ (testS b V.1).2.1 = true → E sc 285 66 [some (aR (some d)), some (aI 0), some (aI 1)] [] J3 L R K Q)) ∧
      (¬ V.2 = true → E sc 285 66 [some (aR (some d)), some (aI 0), some (aI 1)] [] J2 L R K Q) := by
    intro u V ec J2 fr2 a2 t2 u2 hJ9
    rw [ec] at h
    refine ⟨fun qv J3 f3 t3 a3 c3 => ⟨fun qt => ?_, fun qt => ?_⟩, fun qv => ?_⟩
    · have e : conT b len u V = ((aftS b len 4 (testS b V.1).1).1, (aftS b len 4 (testS b V.1).1).2.1, u, (testS b V.1).2.2 :: (aftS b len 4 (testS b V.1).1).2.2) := by unfold conT; rw [if_pos qv, if_pos qt]
      rw [e] at h
      have dn := dn_of (c3 qt) (testS_b qt) (.inl rfl)
      rw [show 1000 * 0 + (testS b V.1).2.2 = (testS b V.1).2.2 by omega] at dn
      have d0 : Done J2 d [] := ⟨by rw [hJ9]; rfl, fun k hk => absurd hk (Nat.not_lt_zero _)⟩
      refine key 4 1 (testS b V.1).1 [(testS b V.1).2.2] J3 (by omega) (frd_t fr2 (frd_f f3)) a3 t3 (done_step d0 f3 dn) rfl (fun J' h1 h2 h3 h4 h5 => h J' h1 h2 h3 (fun g => ⟨?_, h5 g⟩))
      rw [h4, f3 d 5 (by omega) (by omega)]
      exact u2
    · have e : conT b len u V = ((testS b V.1).1, false, u, []) := by unfold conT; rw [if_pos qv, if_neg qt]
      rw [e] at h
      exact stop J3 _ (h J3 (frd_t fr2 (frd_f f3)) t3 a3 (fun g => by cases g))
    · have e : conT b len u V = (V.1, false, u, []) := by unfold conT; rw [if_neg qv]
      rw [e] at h
      exact stop J2 _ (h J2 fr2 t2 a2 (fun g => by cases g))
  refine w_285_0 hL ?_
  rw [hb, hp0]
  refine ⟨⟨hd.1, hd, hA, by omega, by omega⟩, fun J1 f1 t1 a1 => ⟨fun qw => ⟨⟨hd.1, hd, a1⟩, fun qu => ?_, fun qu => ?_⟩, fun qw => ?_⟩⟩
  · have e1 : bJ J1 d = b := eD J1 (frd_a f1)
    rw [e1, t1, tn] at qu
    have fu : FrD d I (setF J1 d 5 0) := fun a j q1 q2 q3 q => by rw [setF_n (by omega)]; exact f1 a j (by omega)
    have eu : bJ (setF J1 d 5 0) d = b := eD _ fu
    have tu : (setF J1 d 5 0 d 7).toNat = (wd b (strF 11) p).1 := by rw [setF_n (by omega), t1]; exact tn _
    refine ⟨hd.1, hd.1, ⟨hd.1, hd, at_5 a1, by omega, by omega⟩, fun J2 f2 t2 a2 => ?_⟩
    rw [eu, tu] at t2 ⊢
    have fr2 : FrD d I J2 := frd_t fu (frd_a f2)
    have e2 : bJ J2 d = b := eD J2 fr2
    have n9 : J2 d 9 = 0 := by
      rw [f2 d 9 (by omega), setF_n (by omega), f1 d 9 (by omega)]
      exact h9
    have am := arm 0 (wd b (strF 13) (wd b (strF 11) p).1) (by unfold conS; rw [if_pos qw, if_neg qu]) J2 fr2 a2 t2 (by rw [f2 d 5 (by omega)]; exact setF_s) n9
    rw [e2, show (J2 d 7).toNat = (wd b (strF 13) (wd b (strF 11) p).1).1 by rw [t2]; exact tn _]
    exact ⟨fun qv => ⟨⟨hd.1, hd, a2, ⟨by omega, by omega⟩, by omega⟩, fun J3 f3 t3 a3 c3 => am.1 qv J3 f3 t3 a3 c3⟩, fun qv => am.2 qv⟩
  · have e1 : bJ J1 d = b := eD J1 (frd_a f1)
    rw [e1, t1, tn] at qu
    have fu : FrD d I (setF J1 d 5 1) := fun a j q1 q2 q3 q => by rw [setF_n (by omega)]; exact f1 a j (by omega)
    have eu : bJ (setF J1 d 5 1) d = b := eD _ fu
    have tu : (setF J1 d 5 1 d 7).toNat = (wd b (strF 11) p).1 := by rw [setF_n (by omega), t1]; exact tn _
    refine ⟨hd.1, hd.1, ⟨hd.1, hd, at_5 a1, by omega, by omega⟩, fun J2 f2 t2 a2 => ?_⟩
    rw [eu, tu] at t2 ⊢
    have fr2 : FrD d I J2 := frd_t fu (frd_a f2)
    have e2 : bJ J2 d = b := eD J2 fr2
    have n9 : J2 d 9 = 0 := by
      rw [f2 d 9 (by omega), setF_n (by omega), f1 d 9 (by omega)]
      exact h9
    have am := arm 1 (wd b (strF 12) (wd b (strF 11) p).1) (by unfold conS; rw [if_pos qw, if_pos qu]) J2 fr2 a2 t2 (by rw [f2 d 5 (by omega)]; exact setF_s) n9
    rw [e2, show (J2 d 7).toNat = (wd b (strF 12) (wd b (strF 11) p).1).1 by rw [t2]; exact tn _]
    exact ⟨fun qv => ⟨⟨hd.1, hd, a2, ⟨by omega, by omega⟩, by omega⟩, fun J3 f3 t3 a3 c3 => am.1 qv J3 f3 t3 a3 c3⟩, fun qv => am.2 qv⟩
  · have e : conS b len p = ((wd b (strF 11) p).1, false, 0, []) := by unfold conS; rw [if_neg qw]
    rw [e] at h
    exact h J1 (frd_a f1) t1 a1 (fun g => by cases g)
