/-! texts: links and the condition, as the class reads them -/
def linkS (b : Nat → Int) (p : Nat) : Nat × Bool × Int :=
  if (wd b (strF 11) p).2 = true then
    if b (wd b (strF 11) p).1 = 111 then ((wd b (strF 14) (wd b (strF 11) p).1).1, (wd b (strF 14) (wd b (strF 11) p).1).2, 1)
    else ((wd b (strF 15) (wd b (strF 11) p).1).1, (wd b (strF 15) (wd b (strF 11) p).1).2, 0)
  else ((wd b (strF 11) p).1, false, 0)
def ltS (b : Nat → Int) (p : Nat) : Nat × Bool × Int :=
  if (linkS b p).2.1 = true then ((testS b (linkS b p).1).1, (testS b (linkS b p).1).2.1, 1000 * (linkS b p).2.2 + (testS b (linkS b p).1).2.2)
  else ((linkS b p).1, false, 0)
def CodeAt (J : IH) (d k : Nat) (C : Int) : Prop := (J (d + 1) k = C % 500 / 40 ∧ J (d + 2) k = vlV (C % 500 % 40 / 10) (C % 10) (C / 500 % 2) ∧ J (d + 3) k = C / 1000) ∧ 0 ≤ C ∧ C < 2000
def DnOK (d : Nat) (C : Int) (I J : IH) : Prop := J d 9 = I d 9 + 1 ∧ CodeAt J d (I d 9).toNat C
theorem dn_of {d : Nat} {o c : Int} {I J : IH} (h : TstOK d o c I J) (hc : 0 ≤ c ∧ c < 1000) (ho : o = 0 ∨ o = 1) : DnOK d (1000 * o + c) I J := by
  obtain ⟨h1, h2, h3, h4⟩ := h
  have e1 : (1000 * o + c) % 500 = c % 500 := by omega
  have e2 : (1000 * o + c) % 10 = c % 10 := by omega
  have e3 : (1000 * o + c) / 500 % 2 = c / 500 := by omega
  have e4 : (1000 * o + c) / 1000 = o := by omega
  refine ⟨h1, ⟨?_, ?_, ?_⟩, by omega, by omega⟩
  · rw [e1]; exact h2
  · rw [e1, e2, e3]; exact h3
  · rw [e4]; exact h4
theorem frt_at {d : Nat} {I J J2 : IH} (h : FrA d I J) (h2 : FrT d J J2) : FrT d I J2 := fun a j q1 q2 => (h2 a j q1 (by rw [h d 9 (by omega)]; exact q2)).trans (h a j (fun g => q1 ⟨g.1, .inl g.2⟩))
theorem bJ_frt {d : Nat} {I J : IH} (hd : d ≠ 1) (hd2 : 71 ≤ d) (h : FrT d I J) : bJ J d = bJ I d := by
  funext p
  unfold bJ
  rw [h d 6 (by omega) (by omega), h 1 p (by omega) (by omega)]
theorem w_286_0 {sc : Nat × (Nat → Int)} {I : IH} {L : LH} {R : RH} {K : KH} {Q : AQ} {d : Nat} (hL : Lay R K) (h : ((K.1 d = 9) ∧ (DraftAt R K d ∧ AtOK I d ∧ 1 ≤ 11 ∧ 11 < 17)) ∧ (∀ (J1 : IH), (FrA d I J1) → (J1 d 7 = ((wd (bJ I d) (strF 11) (I d 7).toNat).1 : Int)) → (AtOK J1 d) → (((wd (bJ I d) (strF 11) (I d 7).toNat).2 = true → (K.1 d = 9 ∧ (DraftAt R K d ∧ AtOK J1 d)) ∧ (((bJ J1 d (J1 d 7).toNat) ≠ 111 → ((K.1 d = 9) ∧ (DraftAt R K d ∧ AtOK J1 d ∧ 1 ≤ 15 ∧ 15 < 17)) ∧ (∀ (J5 : IH), (FrA d J1 J5) → (J5 d 7 = ((wd (bJ J1 d) (strF 15) (J1 d 7).toNat).1 : Int)) → (AtOK J5 d) → (((wd (bJ J1 d) (strF 15) (J1 d 7).toNat).2 = true → ((K.1 d = 9) ∧ (DraftAt R K d ∧ AtOK J5 d ∧ ((0 : Int) ≤ J5 d 9 ∧ J5 d 9 < 5) ∧ (0 = (0 : Int) ∨ 0 = (1 : Int)))) ∧ (∀ (J9 : IH), (FrT d J5 J9) → (J9 d 7 = ((testS (bJ J5 d) (J5 d 7).toNat).1 : Int)) → (AtOK J9 d) → ((testS (bJ J5 d) (J5 d 7).toNat).2.1 = true → TstOK d 0 (testS (bJ J5 d) (J5 d 7).toNat).2.2 J5 J9) → (((testS (bJ J5 d) (J5 d 7).toNat).2.1 = true → Q (some (aI 1)) J9 L R K) ∧ (¬((testS (bJ J5 d) (J5 d 7).toNat).2.1 = true) → Q (some (aI 0)) J9 L R K)))) ∧ (¬((wd (bJ J1 d) (strF 15) (J1 d 7).toNat).2 = true) → Q (some (aI 0)) J5 L R K)))) ∧ ((bJ J1 d (J1 d 7).toNat) = 111 → ((K.1 d = 9) ∧ (DraftAt R K d ∧ AtOK J1 d ∧ 1 ≤ 14 ∧ 14 < 17)) ∧ (∀ (J14 : IH), (FrA d J1 J14) → (J14 d 7 = ((wd (bJ J1 d) (strF 14) (J1 d 7).toNat).1 : Int)) → (AtOK J14 d) → (((wd (bJ J1 d) (strF 14) (J1 d 7).toNat).2 = true → ((K.1 d = 9) ∧ (DraftAt R K d ∧ AtOK J14 d ∧ ((0 : Int) ≤ J14 d 9 ∧ J14 d 9 < 5) ∧ (1 = (0 : Int) ∨ 1 = (1 : Int)))) ∧ (∀ (J18 : IH), (FrT d J14 J18) → (J18 d 7 = ((testS (bJ J14 d) (J14 d 7).toNat).1 : Int)) → (AtOK J18 d) → ((testS (bJ J14 d) (J14 d 7).toNat).2.1 = true → TstOK d 1 (testS (bJ J14 d) (J14 d 7).toNat).2.2 J14 J18) → (((testS (bJ J14 d) (J14 d 7).toNat).2.1 = true → Q (some (aI 1)) J18 L R K) ∧ (¬((testS (bJ J14 d) (J14 d 7).toNat).2.1 = true) → Q (some (aI 0)) J18 L R K)))) ∧ (¬((wd (bJ J1 d) (strF 14) (J1 d 7).toNat).2 = true) → Q (some (aI 0)) J14 L R K)))))) ∧ (¬((wd (bJ I d) (strF 11) (I d 7).toNat).2 = true) → Q (some (aI 0)) J1 L R K)))) : E sc 286 0 [some (aR (some d)), none] [] I L R K Q :=
  e_aload_n mb_286 dX9_readLink_0 rfl (e_ldc mb_286 dX9_readLink_1 (by rw [mf_286.1]; exact ls_36963) rfl (e_callV mb_286 dX9_readLink_3 mf_286 mf_292 cs_36943 rfl rfl rfl rfl h.1.1 rfl (v_292 hL h.1.2 (fun J1 hp2 hp3 hp4 => (show E _ _ _ _ [aI (b2i ((wd (bJ I d) (strF 11) (I d 7).toNat).2 = true))] _ _ _ _ _ from e_ifb_ne mb_286 dX9_readLink_6 rfl ⟨fun q1 => e_aload_n mb_286 dX9_readLink_11 rfl (e_callV mb_286 dX9_readLink_12 mf_286 mf_291 cs_36937 rfl rfl rfl rfl ((h.2 J1 hp2 hp3 hp4).1 q1).1.1 rfl (v_291 hL ((h.2 J1 hp2 hp3 hp4).1 q1).1.2 (show E _ _ _ _ (_ :: _) _ _ _ _ _ from e_bipush mb_286 dX9_readLink_15 cv_bipush_111 (e_icmp mb_286 dX9_readLink_17 rfl (fun q2 => e_iconst mb_286 dX9_readLink_24 cv_iconst_0 (e_istore_n (l1 := [some (aR (some d)), some (aI 0)]) mb_286 dX9_readLink_25 rfl (e_aload_n mb_286 dX9_readLink_26 rfl (e_iload_n mb_286 dX9_readLink_27 rfl (e_if mb_286 dX9_readLink_28 rfl (fun _ => e_ldc mb_286 dX9_readLink_36 (by rw [mf_286.1]; exact ls_36978) rfl (e_callV mb_286 dX9_readLink_38 mf_286 mf_292 cs_36943 rfl rfl rfl rfl (((h.2 J1 hp2 hp3 hp4).1 q1).2.1 (cb_ne.1.mp q2)).1.1 rfl (v_292 hL (((h.2 J1 hp2 hp3 hp4).1 q1).2.1 (cb_ne.1.mp q2)).1.2 (fun J5 hp6 hp7 hp8 => (show E _ _ _ _ [aI (b2i ((wd (bJ J1 d) (strF 15) (J1 d 7).toNat).2 = true))] _ _ _ _ _ from e_ifb_eq mb_286 dX9_readLink_41 rfl ⟨fun q3 => e_aload_n mb_286 dX9_readLink_44 rfl (e_iload_n mb_286 dX9_readLink_45 rfl (e_callV mb_286 dX9_readLink_46 mf_286 mf_287 cs_36969 rfl rfl rfl rfl (((((h.2 J1 hp2 hp3 hp4).1 q1).2.1 (cb_ne.1.mp q2)).2 J5 hp6 hp7 hp8).1 q3).1.1 rfl (v_287 hL (((((h.2 J1 hp2 hp3 hp4).1 q1).2.1 (cb_ne.1.mp q2)).2 J5 hp6 hp7 hp8).1 q3).1.2 (fun J9 hp10 hp11 hp12 hp13 => (show E _ _ _ _ [aI (b2i ((testS (bJ J5 d) (J5 d 7).toNat).2.1 = true))] _ _ _ _ _ from e_ifb_eq mb_286 dX9_readLink_49 rfl ⟨fun q4 => e_iconst mb_286 dX9_readLink_52 cv_iconst_1 (e_goto mb_286 dX9_readLink_53 rfl (e_ireturn mb_286 dX9_readLink_57 (ri_286 (Or.inr rfl)) (((((((h.2 J1 hp2 hp3 hp4).1 q1).2.1 (cb_ne.1.mp q2)).2 J5 hp6 hp7 hp8).1 q3).2 J9 hp10 hp11 hp12 hp13).1 q4))), fun q4 => e_iconst mb_286 dX9_readLink_56 cv_iconst_0 (e_ireturn mb_286 dX9_readLink_57 (ri_286 (Or.inl rfl)) (((((((h.2 J1 hp2 hp3 hp4).1 q1).2.1 (cb_ne.1.mp q2)).2 J5 hp6 hp7 hp8).1 q3).2 J9 hp10 hp11 hp12 hp13).2 q4))⟩))))), fun q3 => e_iconst mb_286 dX9_readLink_56 cv_iconst_0 (e_ireturn mb_286 dX9_readLink_57 (ri_286 (Or.inl rfl)) (((((h.2 J1 hp2 hp3 hp4).1 q1).2.1 (cb_ne.1.mp q2)).2 J5 hp6 hp7 hp8).2 q3))⟩))))) (fun q => absurd q (by decide))))))) (fun q2 => e_iconst mb_286 dX9_readLink_20 cv_iconst_1 (e_goto mb_286 dX9_readLink_21 rfl (e_istore_n (l1 := [some (aR (some d)), some (aI 1)]) mb_286 dX9_readLink_25 rfl (e_aload_n mb_286 dX9_readLink_26 rfl (e_iload_n mb_286 dX9_readLink_27 rfl (e_if mb_286 dX9_readLink_28 rfl (fun q => absurd q (by decide)) (fun _ => e_ldc mb_286 dX9_readLink_31 (by rw [mf_286.1]; exact ls_36976) rfl (e_goto mb_286 dX9_readLink_33 rfl (e_callV mb_286 dX9_readLink_38 mf_286 mf_292 cs_36943 rfl rfl rfl rfl (((h.2 J1 hp2 hp3 hp4).1 q1).2.2 (cb_ne.2.mp q2)).1.1 rfl (v_292 hL (((h.2 J1 hp2 hp3 hp4).1 q1).2.2 (cb_ne.2.mp q2)).1.2 (fun J14 hp15 hp16 hp17 => (show E _ _ _ _ [aI (b2i ((wd (bJ J1 d) (strF 14) (J1 d 7).toNat).2 = true))] _ _ _ _ _ from e_ifb_eq mb_286 dX9_readLink_41 rfl ⟨fun q5 => e_aload_n mb_286 dX9_readLink_44 rfl (e_iload_n mb_286 dX9_readLink_45 rfl (e_callV mb_286 dX9_readLink_46 mf_286 mf_287 cs_36969 rfl rfl rfl rfl (((((h.2 J1 hp2 hp3 hp4).1 q1).2.2 (cb_ne.2.mp q2)).2 J14 hp15 hp16 hp17).1 q5).1.1 rfl (v_287 hL (((((h.2 J1 hp2 hp3 hp4).1 q1).2.2 (cb_ne.2.mp q2)).2 J14 hp15 hp16 hp17).1 q5).1.2 (fun J18 hp19 hp20 hp21 hp22 => (show E _ _ _ _ [aI (b2i ((testS (bJ J14 d) (J14 d 7).toNat).2.1 = true))] _ _ _ _ _ from e_ifb_eq mb_286 dX9_readLink_49 rfl ⟨fun q6 => e_iconst mb_286 dX9_readLink_52 cv_iconst_1 (e_goto mb_286 dX9_readLink_53 rfl (e_ireturn mb_286 dX9_readLink_57 (ri_286 (Or.inr rfl)) (((((((h.2 J1 hp2 hp3 hp4).1 q1).2.2 (cb_ne.2.mp q2)).2 J14 hp15 hp16 hp17).1 q5).2 J18 hp19 hp20 hp21 hp22).1 q6))), fun q6 => e_iconst mb_286 dX9_readLink_56 cv_iconst_0 (e_ireturn mb_286 dX9_readLink_57 (ri_286 (Or.inl rfl)) (((((((h.2 J1 hp2 hp3 hp4).1 q1).2.2 (cb_ne.2.mp q2)).2 J14 hp15 hp16 hp17).1 q5).2 J18 hp19 hp20 hp21 hp22).2 q6))⟩))))), fun q5 => e_iconst mb_286 dX9_readLink_56 cv_iconst_0 (e_ireturn mb_286 dX9_readLink_57 (ri_286 (Or.inl rfl)) (((((h.2 J1 hp2 hp3 hp4).1 q1).2.2 (cb_ne.2.mp q2)).2 J14 hp15 hp16 hp17).2 q5))⟩)))))))))))))))), fun q1 => e_iconst mb_286 dX9_readLink_9 cv_iconst_0 (e_ireturn mb_286 dX9_readLink_10 (ri_286 (Or.inl rfl)) ((h.2 J1 hp2 hp3 hp4).2 q1))⟩)))))
theorem v_286 {sc : Nat × (Nat → Int)} {I : IH} {L : LH} {R : RH} {K : KH} {Q : AQ} {d : Nat} (hL : Lay R K) (hp : DraftAt R K d ∧ AtOK I d ∧ (0 ≤ I d 9 ∧ I d 9 < 5)) (h : ∀ J, FrT d I J → J d 7 = ((ltS (bJ I d) (I d 7).toNat).1 : Int) → AtOK J d → ((ltS (bJ I d) (I d 7).toNat).2.1 = true → DnOK d (ltS (bJ I d) (I d 7).toNat).2.2 I J) → Q (some (aI (b2i ((ltS (bJ I d) (I d 7).toNat).2.1 = true)))) J L R K) : E sc 286 0 [some (aR (some d)), none] [] I L R K Q := by
  obtain ⟨hd, hA, h9⟩ := hp
  have hne := dr_ne hd
  have tn : ∀ n : Nat, ((n : Nat) : Int).toNat = n := fun n => Int.toNat_natCast n
  generalize hp0 : (I d 7).toNat = p at *
  generalize hb : bJ I d = b at *
  have fail : ∀ (J : IH), FrA d I J → AtOK J d → J d 7 = ((linkS b p).1 : Int) → (linkS b p).2.1 = false → Q (some (aI 0)) J L R K := fun J g1 g2 g3 g4 => by
    have et : ltS b p = ((linkS b p).1, false, 0) := by unfold ltS; rw [if_neg (by rw [g4]; decide)]
    rw [et] at h
    exact h J (frt_a g1) g3 g2 (fun g => by cases g)
  have good : ∀ (o : Int) (q : Nat) (H J : IH), linkS b p = (q, true, o) → (o = 0 ∨ o = 1) → FrA d I H → FrT d H J → J d 7 = ((testS b q).1 : Int) → AtOK J d → ((testS b q).2.1 = true → TstOK d o (testS b q).2.2 H J) → Q (some (aI (b2i ((testS b q).2.1 = true)))) J L R K := fun o q H J e ho g1 g2 g3 g4 g5 => by
    have et : ltS b p = ((testS b q).1, (testS b q).2.1, 1000 * o + (testS b q).2.2) := by unfold ltS; rw [if_pos (by rw [e]), e]
    rw [et] at h
    refine h J (frt_at g1 g2) g3 g4 (fun g => ?_)
    have g : (testS b q).2.1 = true := g
    have := dn_of (g5 g) (testS_b g) ho
    unfold DnOK at this ⊢
    rw [g1 d 9 (by omega)] at this
    exact this
  refine w_286_0 hL ?_
  rw [hb, hp0]
  refine ⟨⟨hd.1, hd, hA, by omega, by omega⟩, fun J1 f1 t1 a1 => ⟨fun qw => ⟨⟨hd.1, hd, a1⟩, fun qo => ⟨⟨hd.1, hd, a1, by omega, by omega⟩, fun J2 f2 t2 a2 => ?_⟩, fun qo => ⟨⟨hd.1, hd, a1, by omega, by omega⟩, fun J2 f2 t2 a2 => ?_⟩⟩, fun qw => ?_⟩⟩
  · have e1 : bJ J1 d = b := by rw [bJ_fr hne.1 f1, hb]
    rw [e1, t1, tn] at qo t2 ⊢
    have g2 := fra_t f1 f2
    have e2 : bJ J2 d = b := by rw [bJ_fr hne.1 g2, hb]
    have el : linkS b p = ((wd b (strF 15) (wd b (strF 11) p).1).1, (wd b (strF 15) (wd b (strF 11) p).1).2, 0) := by unfold linkS; rw [if_pos qw, if_neg qo]
    have n9 : J2 d 9 = I d 9 := g2 d 9 (by omega)
    refine ⟨fun qv => ⟨⟨hd.1, hd, a2, by omega, by omega⟩, fun J3 f3 t3 a3 c3 => ?_⟩, fun qv => fail J2 g2 a2 (by rw [el]; exact t2) (by rw [el]; simpa using qv)⟩
    rw [e2, t2, tn] at t3 c3 ⊢
    rw [qv] at el
    have gd := good 0 _ J2 J3 el (by omega) g2 f3 t3 a3 c3
    refine ⟨fun qt => ?_, fun qt => ?_⟩
    · rw [qt] at gd; exact gd
    · rw [show (testS b (wd b (strF 15) (wd b (strF 11) p).1).1).2.1 = false by simpa using qt] at gd; exact gd
  · have e1 : bJ J1 d = b := by rw [bJ_fr hne.1 f1, hb]
    rw [e1, t1, tn] at qo t2 ⊢
    have g2 := fra_t f1 f2
    have e2 : bJ J2 d = b := by rw [bJ_fr hne.1 g2, hb]
    have el : linkS b p = ((wd b (strF 14) (wd b (strF 11) p).1).1, (wd b (strF 14) (wd b (strF 11) p).1).2, 1) := by unfold linkS; rw [if_pos qw, if_pos qo]
    have n9 : J2 d 9 = I d 9 := g2 d 9 (by omega)
    refine ⟨fun qv => ⟨⟨hd.1, hd, a2, by omega, by omega⟩, fun J3 f3 t3 a3 c3 => ?_⟩, fun qv => fail J2 g2 a2 (by rw [el]; exact t2) (by rw [el]; simpa using qv)⟩
    rw [e2, t2, tn] at t3 c3 ⊢
    rw [qv] at el
    have gd := good 1 _ J2 J3 el (by omega) g2 f3 t3 a3 c3
    refine ⟨fun qt => ?_, fun qt => ?_⟩
    · rw [qt] at gd; exact gd
    · rw [show (testS b (wd b (strF 14) (wd b (strF 11) p).1).1).2.1 = false by simpa using qt] at gd; exact gd
  · have el : linkS b p = ((wd b (strF 11) p).1, false, 0) := by unfold linkS; rw [if_neg qw]
    exact fail J1 f1 a1 (by rw [el]; exact t1) (by rw [el])
