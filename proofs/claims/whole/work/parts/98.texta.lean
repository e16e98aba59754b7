/-! texts: new objects -/
theorem lay_al {R : RH} {K : KH} {kd n : Nat} (h : Lay R K) : Lay R (amAlloc K kd n) := by
  obtain ⟨h1, h2, h3⟩ := h
  refine ⟨fun a ha => ?_, h2, Nat.le_succ_of_le h3⟩
  have := h1 a ha
  have hne : a ≠ K.2.2.1 := by omega
  unfold amAlloc up1
  dsimp only
  rw [if_neg hne, if_neg hne]
  exact this
theorem layRs_lt : ∀ e ∈ layRs, e.1 < 131 := by decide +kernel
theorem lay_rn {R : RH} {K : KH} {t j : Nat} {x : Option Nat} (h : Lay R K) (ht : 131 ≤ t) : Lay (setF R t j x) K := by
  obtain ⟨h1, h2, h3⟩ := h
  refine ⟨h1, fun e he => ?_, h3⟩
  unfold setF
  rw [if_neg (fun g => by have := layRs_lt e he; omega)]
  exact h2 e he
theorem al_1 {K : KH} {kd n a : Nat} (h : a ≠ K.2.2.1) : (amAlloc K kd n).1 a = K.1 a ∧ (amAlloc K kd n).2.1 a = K.2.1 a := by
  unfold amAlloc up1
  exact ⟨if_neg h, if_neg h⟩
theorem al_s {K : KH} {kd n : Nat} : (amAlloc K kd n).1 K.2.2.1 = kd ∧ (amAlloc K kd n).2.1 K.2.2.1 = n := by
  unfold amAlloc up1
  exact ⟨if_pos rfl, if_pos rfl⟩
theorem w_259_0 {sc : Nat × (Nat → Int)} {I : IH} {L : LH} {R : RH} {K : KH} {Q : AQ} {t : Nat} (hL : Lay R K) (h : E sc 259 7 [some (aR (some t))] [aI 24, aR (some t)] I L R K Q) : E sc 259 0 [some (aR (some t))] [] I L R K Q :=
  e_aload_n mb_259 dX7_init_0 rfl (e_obj mb_259 dX7_init_1 (by rw [mf_259.1]; decide +kernel) ⟨by rw [mf_259.2.1]; decide, Nat.le_of_ble_eq_true rfl⟩ (e_aload_n mb_259 dX7_init_4 rfl (e_bipush mb_259 dX7_init_5 cv_bipush_24 h)))
theorem w_259_9 {sc : Nat × (Nat → Int)} {I : IH} {L : LH} {R : RH} {K : KH} {Q : AQ} {t1 t0 : Nat} {o0 : Option AV} (no0 : nL o0) (hL : Lay R K) (h : (K.1 t0 = 7) ∧ Q none I L (setF R t0 0 (some t1)) K) : E sc 259 9 [o0] [aR (some t1), aR (some t0)] I L R K Q :=
  e_putr mb_259 dX7_init_9 mf_259.1 fs_28681 fk_7_0 (Or.inr ⟨rfl, rfl, rfl⟩) h.1 (e_return mb_259 dX7_init_12 rv_259 h.2)
theorem v_259 {sc : Nat × (Nat → Int)} {I : IH} {L : LH} {R : RH} {K : KH} {Q : AQ} {t : Nat} (hL : Lay R K) (hk : K.1 t = 7) (ht : t < K.2.2.1) (h : Q none I L (setF R t 0 (some K.2.2.1)) (amAlloc K 102 24)) : E sc 259 0 [some (aR (some t))] [] I L R K Q :=
  w_259_0 hL (e_newarray mb_259 dX7_init_7 rfl (by omega) (w_259_9 nl_r (lay_al hL) ⟨by rw [(al_1 (by omega)).1]; exact hk, h⟩))
theorem w_279_0 {sc : Nat × (Nat → Int)} {I : IH} {L : LH} {R : RH} {K : KH} {Q : AQ} {t : Nat} (hL : Lay R K) (h : E sc 279 6 [some (aR (some t)), some (aR (some 1))] [aI 5, aR (some t)] I L R K Q) : E sc 279 0 [some (aR (some t)), some (aR (some 1))] [] I L R K Q :=
  e_aload_n mb_279 dX9_init_0 rfl (e_obj mb_279 dX9_init_1 (by rw [mf_279.1]; decide +kernel) ⟨by rw [mf_279.2.1]; decide, Nat.le_of_ble_eq_true rfl⟩ (e_aload_n mb_279 dX9_init_4 rfl (e_iconst mb_279 dX9_init_5 cv_iconst_5 h)))
theorem w_279_8 {sc : Nat × (Nat → Int)} {I : IH} {L : LH} {R : RH} {K : KH} {Q : AQ} {r0 t1 t0 : Nat} (hL : Lay R K) (h : (K.1 t0 = 9) ∧ E sc 279 13 [some (aR (some r0)), some (aR (some 1))] [aI 5, aR (some r0)] I L (setF R t0 1 (some t1)) K Q) : E sc 279 8 [some (aR (some r0)), some (aR (some 1))] [aR (some t1), aR (some t0)] I L R K Q :=
  e_putr mb_279 dX9_init_8 mf_279.1 fs_36875 fk_9_1 (Or.inr ⟨rfl, rfl, rfl⟩) h.1 (e_aload_n mb_279 dX9_init_11 rfl (e_iconst mb_279 dX9_init_12 cv_iconst_5 h.2))
theorem w_279_15 {sc : Nat × (Nat → Int)} {I : IH} {L : LH} {R : RH} {K : KH} {Q : AQ} {r0 t1 t0 : Nat} (hL : Lay R K) (h : (K.1 t0 = 9) ∧ E sc 279 20 [some (aR (some r0)), some (aR (some 1))] [aI 5, aR (some r0)] I L (setF R t0 2 (some t1)) K Q) : E sc 279 15 [some (aR (some r0)), some (aR (some 1))] [aR (some t1), aR (some t0)] I L R K Q :=
  e_putr mb_279 dX9_init_15 mf_279.1 fs_36879 fk_9_2 (Or.inr ⟨rfl, rfl, rfl⟩) h.1 (e_aload_n mb_279 dX9_init_18 rfl (e_iconst mb_279 dX9_init_19 cv_iconst_5 h.2))
theorem w_279_22 {sc : Nat × (Nat → Int)} {I : IH} {L : LH} {R : RH} {K : KH} {Q : AQ} {r0 t1 t0 : Nat} (hL : Lay R K) (h : (K.1 t0 = 9) ∧ E sc 279 26 [some (aR (some r0)), some (aR (some 1))] [aR (some r0)] I L (setF R t0 3 (some t1)) K Q) : E sc 279 22 [some (aR (some r0)), some (aR (some 1))] [aR (some t1), aR (some t0)] I L R K Q :=
  e_putr mb_279 dX9_init_22 mf_279.1 fs_36882 fk_9_3 (Or.inr ⟨rfl, rfl, rfl⟩) h.1 (e_aload_n mb_279 dX9_init_25 rfl h.2)
theorem w_279_29 {sc : Nat × (Nat → Int)} {I : IH} {L : LH} {R : RH} {K : KH} {Q : AQ} {r0 t1 t0 : Nat} (hL : Lay R K) (h : E sc 279 30 [some (aR (some r0)), some (aR (some 1))] [aR (some t1), aR (some t1), aR (some t0)] I L R K Q) : E sc 279 29 [some (aR (some r0)), some (aR (some 1))] [aR (some t1), aR (some t0)] I L R K Q :=
  e_dup mb_279 dX9_init_29 rfl h
theorem w_279_33 {sc : Nat × (Nat → Int)} {I : IH} {L : LH} {R : RH} {K : KH} {Q : AQ} {r0 t1 t0 : Nat} (hL : Lay R K) (h : (K.1 t0 = 9) ∧ (K.1 r0 = 9) ∧ Q none I L (setF (setF R t0 4 (some t1)) r0 0 (some 1)) K) : E sc 279 33 [some (aR (some r0)), some (aR (some 1))] [aR (some t1), aR (some t0)] I L R K Q :=
  e_putr mb_279 dX9_init_33 mf_279.1 fs_36889 fk_9_4 (Or.inr ⟨rfl, rfl, rfl⟩) h.1 (e_aload_n mb_279 dX9_init_36 rfl (e_aload_n mb_279 dX9_init_37 rfl (e_putr mb_279 dX9_init_38 mf_279.1 fs_36893 fk_9_0 (Or.inr ⟨rfl, rfl, rfl⟩) h.2.1 (e_return mb_279 dX9_init_41 rv_279 h.2.2))))
def Kt (K : KH) : KH := amAlloc (amAlloc (amAlloc (amAlloc (amAlloc K 100 5) 100 5) 101 5) 7 (nFld 7)) 102 24
def Rt (R : RH) (t n : Nat) : RH := setF (setF (setF (setF (setF (setF R t 1 (some n)) t 2 (some (n + 1))) t 3 (some (n + 2))) (n + 3) 0 (some (n + 4))) t 4 (some (n + 3))) t 0 (some 1)
theorem v_279 {sc : Nat × (Nat → Int)} {I : IH} {L : LH} {R : RH} {K : KH} {Q : AQ} {t : Nat} (hL : Lay R K) (hk : K.1 t = 9) (ht : t < K.2.2.1) (h131 : 131 ≤ t) (h : Q none I L (Rt R t K.2.2.1) (Kt K)) : E sc 279 0 [some (aR (some t)), some (aR (some 1))] [] I L R K Q := by
  have k1 : (amAlloc K 100 5).1 t = 9 := by rw [(al_1 (by omega)).1]; exact hk
  have k2 : (amAlloc (amAlloc K 100 5) 100 5).1 t = 9 := by rw [(al_1 (by show t ≠ K.2.2.1 + 1; omega)).1]; exact k1
  have k3 : (amAlloc (amAlloc (amAlloc K 100 5) 100 5) 101 5).1 t = 9 := by rw [(al_1 (by show t ≠ K.2.2.1 + 1 + 1; omega)).1]; exact k2
  have k4 : (amAlloc (amAlloc (amAlloc (amAlloc K 100 5) 100 5) 101 5) 7 (nFld 7)).1 t = 9 := by rw [(al_1 (by show t ≠ K.2.2.1 + 1 + 1 + 1; omega)).1]; exact k3
  have k5 : (Kt K).1 t = 9 := by unfold Kt; rw [(al_1 (by show t ≠ K.2.2.1 + 1 + 1 + 1 + 1; omega)).1]; exact k4
  have L1 := lay_al (kd := 100) (n := 5) hL
  have L2 := lay_al (kd := 100) (n := 5) (lay_rn (j := 1) (x := some K.2.2.1) L1 h131)
  have L3 := lay_al (kd := 101) (n := 5) (lay_rn (j := 2) (x := some (K.2.2.1 + 1)) L2 h131)
  have L4 := lay_al (kd := 7) (n := nFld 7) (lay_rn (j := 3) (x := some (K.2.2.1 + 2)) L3 h131)
  refine w_279_0 hL (e_newarray mb_279 dX9_init_6 rfl (by omega) (w_279_8 L1 ⟨k1, ?_⟩))
  refine e_newarray mb_279 dX9_init_13 rfl (by omega) (w_279_15 L2 ⟨k2, ?_⟩)
  refine e_newarray mb_279 dX9_init_20 rfl (by omega) (w_279_22 L3 ⟨k3, ?_⟩)
  refine e_new mb_279 dX9_init_26 (by rw [mf_279.1]; rfl) (w_279_29 L4 ?_)
  refine e_callP mb_279 dX9_init_30 mf_279 mf_259 cs_36888 rfl rfl rfl rfl (al_s (K := amAlloc (amAlloc (amAlloc K 100 5) 100 5) 101 5)).1 rfl  (v_259 L4 (al_s (K := amAlloc (amAlloc (amAlloc K 100 5) 100 5) 101 5)).1 (Nat.lt_succ_self _) ?_)
  exact w_279_33 (lay_al (lay_rn L4 (by show 131 ≤ K.2.2.1 + 1 + 1 + 1; omega))) ⟨k5, k5, h⟩
theorem draft_new {R : RH} {K : KH} {m : Nat} (h : 131 ≤ K.2.2.1) : DraftAt (Rt R K.2.2.1 (K.2.2.1 + 1)) (Kt (amAlloc K 9 m)) K.2.2.1 := by
  obtain ⟨K1, K2, n, z⟩ := K
  have h : 131 ≤ n := h
  show DraftAt (Rt R n (n + 1)) (Kt (amAlloc (K1, K2, n, z) 9 m)) n
  unfold DraftAt Rt Kt amAlloc up1 setF
  dsimp only
  have q : ∀ k : Nat, n ≠ n + (k + 1) := fun k => by omega
  refine ⟨?_, ?_, ?_, ?_, ?_, ?_, ?_, ?_, ?_, ?_, ?_, ?_, ?_, ?_, ?_, ?_, by omega, by omega, by omega⟩
  all_goals first | (simp; done) | (simp; omega) | (simp; repeat rw [if_neg (by omega)])
theorem w_223_0 {sc : Nat × (Nat → Int)} {I : IH} {L : LH} {R : RH} {K : KH} {Q : AQ} {c0 c1 c2 c3 c4 c5 : Int} {t x : Nat} (hL : Lay R K) (h : E sc 223 7 [some (aR (some t)), some (aR (some x)), some (aI c0), some (aI c1), some (aI c2), some (aI c3), some (aI c4), some (aI c5)] [aI 20, aR (some t)] I L R K Q) : E sc 223 0 [some (aR (some t)), some (aR (some x)), some (aI c0), some (aI c1), some (aI c2), some (aI c3), some (aI c4), some (aI c5)] [] I L R K Q :=
  e_aload_n mb_223 dX4_init_0 rfl (e_obj mb_223 dX4_init_1 (by rw [mf_223.1]; decide +kernel) ⟨by rw [mf_223.2.1]; decide, Nat.le_of_ble_eq_true rfl⟩ (e_aload_n mb_223 dX4_init_4 rfl (e_bipush mb_223 dX4_init_5 cv_bipush_20 h)))
theorem w_223_9 {sc : Nat × (Nat → Int)} {I : IH} {L : LH} {R : RH} {K : KH} {Q : AQ} {x2 x3 x4 x5 x6 x7 : Int} {r0 r1 t1 t0 : Nat} (hL : Lay R K) (h : (K.1 t0 = 4) ∧ (K.1 r0 = 4) ∧ (K.1 r0 = 4) ∧ (K.1 r0 = 4) ∧ (K.1 r0 = 4) ∧ (K.1 r0 = 4) ∧ (K.1 r0 = 4) ∧ (K.1 r0 = 4) ∧ (K.1 r0 = 4) ∧ Q none (setF (setF (setF (setF (setF (setF (setF I r0 9 (-1)) r0 1 x2) r0 2 x3) r0 3 x4) r0 4 x5) r0 5 x6) r0 6 x7) L (setF (setF R t0 7 (some t1)) r0 0 (some r1)) K) : E sc 223 9 [some (aR (some r0)), some (aR (some r1)), some (aI x2), some (aI x3), some (aI x4), some (aI x5), some (aI x6), some (aI x7)] [aR (some t1), aR (some t0)] I L R K Q :=
  e_putr mb_223 dX4_init_9 mf_223.1 fs_16395 fk_4_7 (Or.inr ⟨rfl, rfl, rfl⟩) h.1 (e_aload_n mb_223 dX4_init_12 rfl (e_iconst mb_223 dX4_init_13 cv_iconst_m1 (e_puti mb_223 dX4_init_14 mf_223.1 fs_16399 fk_4_9 (Or.inl ff_4_9) h.2.1 (e_aload_n mb_223 dX4_init_17 rfl (e_aload_n mb_223 dX4_init_18 rfl (e_putr mb_223 dX4_init_19 mf_223.1 fs_16403 fk_4_0 (Or.inr ⟨rfl, rfl, rfl⟩) h.2.2.1 (e_aload_n mb_223 dX4_init_22 rfl (e_iload_n mb_223 dX4_init_23 rfl (e_puti mb_223 dX4_init_24 mf_223.1 fs_16407 fk_4_1 (Or.inr ⟨rfl, rfl, rfl⟩) h.2.2.2.1 (e_aload_n mb_223 dX4_init_27 rfl (e_iload_n mb_223 dX4_init_28 rfl (e_puti mb_223 dX4_init_29 mf_223.1 fs_16410 fk_4_2 (Or.inr ⟨rfl, rfl, rfl⟩) h.2.2.2.2.1 (e_aload_n mb_223 dX4_init_32 rfl (e_iload mb_223 dX4_init_33 rfl (e_puti mb_223 dX4_init_35 mf_223.1 fs_16413 fk_4_3 (Or.inr ⟨rfl, rfl, rfl⟩) h.2.2.2.2.2.1 (e_aload_n mb_223 dX4_init_38 rfl (e_iload mb_223 dX4_init_39 rfl (e_puti mb_223 dX4_init_41 mf_223.1 fs_16416 fk_4_4 (Or.inr ⟨rfl, rfl, rfl⟩) h.2.2.2.2.2.2.1 (e_aload_n mb_223 dX4_init_44 rfl (e_iload mb_223 dX4_init_45 rfl (e_puti mb_223 dX4_init_47 mf_223.1 fs_16419 fk_4_5 (Or.inr ⟨rfl, rfl, rfl⟩) h.2.2.2.2.2.2.2.1 (e_aload_n mb_223 dX4_init_50 rfl (e_iload mb_223 dX4_init_51 rfl (e_puti mb_223 dX4_init_53 mf_223.1 fs_16422 fk_4_6 (Or.inr ⟨rfl, rfl, rfl⟩) h.2.2.2.2.2.2.2.2.1 (e_return mb_223 dX4_init_56 rv_223 h.2.2.2.2.2.2.2.2.2)))))))))))))))))))))))))
theorem v_223 {sc : Nat × (Nat → Int)} {I : IH} {L : LH} {R : RH} {K : KH} {Q : AQ} {t x : Nat} {c0 c1 c2 c3 c4 c5 : Int} (hL : Lay R K) (hk : K.1 t = 4) (ht : t < K.2.2.1) (h131 : 131 ≤ t) (h : Q none (setF (setF (setF (setF (setF (setF (setF I t 9 (-1)) t 1 c0) t 2 c1) t 3 c2) t 4 c3) t 5 c4) t 6 c5) L (setF (setF R t 7 (some K.2.2.1)) t 0 (some x)) (amAlloc K 100 20)) : E sc 223 0 [some (aR (some t)), some (aR (some x)), some (aI c0), some (aI c1), some (aI c2), some (aI c3), some (aI c4), some (aI c5)] [] I L R K Q := by
  have k1 : (amAlloc K 100 20).1 t = 4 := by rw [(al_1 (by omega)).1]; exact hk
  exact w_223_0 hL (e_newarray mb_223 dX4_init_7 rfl (by omega) (w_223_9 (lay_al hL) ⟨k1, k1, k1, k1, k1, k1, k1, k1, k1, h⟩))
