/-! near: the reference, the call -/
theorem v_303y {N : Nat} {sc : Nat × (Nat → Int)} {I : IH} {L : LH} {R : RH} {K : KH} {Q : AQ} {a0 : Int} (hL : Lay R K) (hp : Inv N I L R K ∧ a0 = I 77 0) (h : ∀ J, Sg I J → (∀ p, p < NN I 5 → J 44 p = plK I p) → Q (some (aI (bsgF (plK I) (NN I 5)).1)) J L R K) : E sc 303 0 [some (aR (some 36)), some (aI a0), none, none, none] [] I L R K Q := by
  obtain ⟨hI, rfl⟩ := hp
  exact v_303 hL hI h
theorem v_305y {N : Nat} {sc : Nat × (Nat → Int)} {I J : IH} {L : LH} {R : RH} {K : KH} {Q : AQ} {a0 : Int} (hL : Lay R K) (hp : Inv N I L R K ∧ Sg I J ∧ 0 ≤ a0 ∧ a0 < 243) (h : Q (some (aI (wrP I a0.toNat))) J L R K) : E sc 305 0 [some (aR (some 36)), some (aI a0), none, none, none, none] [] J L R K Q := by
  obtain ⟨hI, hs, h0⟩ := hp
  obtain ⟨p, rfl⟩ : ∃ p : Nat, a0 = (p : Int) := ⟨a0.toNat, by omega⟩
  rw [Int.toNat_natCast] at h
  exact v_305 hL hI hs (by omega) h
theorem tpI_c {I : IH} {t u : Nat → Nat} (h : ∀ k, k < 5 → t k = u k) {s : Int} : ∀ k, k ≤ 5 → tpI I t s k = tpI I u s k := by
  intro k
  induction k with
  | zero => intro _; rfl
  | succ k ih =>
    intro hk
    rw [tpI, tpI, ih (by omega), h k (by omega)]
theorem KepI_c {I : IH} {t u : Nat → Nat} (h : ∀ k, k < 5 → t k = u k) : KepI I t 1536 = KepI I u 1536 := sumTo_congr 1536 (fun s _ => by
  show kepI I t (s : Int) = kepI I u (s : Int)
  unfold kepI
  rw [tpI_c h 5 (by omega)])
theorem TT_tp {I : IH} {p : Nat} {s : Int} : ∀ k, k ≤ 5 → TT I s k (rDg I p (5 - k)) = tpI I (dgP I p) s k := by
  intro k
  induction k with
  | zero => intro _; rfl
  | succ k ih =>
    intro hk
    have e1 : 5 - (k + 1) = 4 - k := by omega
    have e2 : rDg I p (5 - k) = rDg I p (4 - k) / nW I k := by
      rw [show 5 - k = (4 - k) + 1 by omega, rDg, show 4 - (4 - k) = k by omega]
    have h1 := ih (by omega)
    rw [e2] at h1
    rw [TT, tpI, e1, h1]
    rfl
theorem plK_eq {I : IH} {p : Nat} : plK I p = KepI I (dgP I p) 1536 := sumTo_congr 1536 (fun s _ => by
  show conI I (s : Int) (TT I (s : Int) 5 p % 256 - 3) = conI I (s : Int) (tpI I (dgP I p) (s : Int) 5 % 256 - 3)
  rw [← TT_tp 5 (by omega)]
  rfl)
theorem dgP_b {N : Nat} {I : IH} {L : LH} {R : RH} {K : KH} (hI : Inv N I L R K) {p k : Nat} (hk : k < 5) : dgP I p k < nW I k := Nat.mod_lt _ (by have := nW_b hI hk; omega)
theorem dgP_ok {N : Nat} {I : IH} {L : LH} {R : RH} {K : KH} (hI : Inv N I L R K) {p : Nat} : DigOK I (dgP I p) := fun k hk => by
  have h1 := nW_b hI hk
  have h2 := dgP_b hI (p := p) hk
  refine ⟨fun q => ?_, fun q => ?_⟩
  · have := h1.2.2.1 q; omega
  · have := h1.2.2.2.1 q; omega
theorem dm_succ {a n : Nat} (hn : 1 ≤ n ∧ n ≤ 3) : (a % n + 1 < n → (a + 1) % n = a % n + 1 ∧ (a + 1) / n = a / n) ∧ (¬ (a % n + 1 < n) → (a + 1) % n = 0 ∧ (a + 1) / n = a / n + 1) := by
  have h : n = 1 ∨ n = 2 ∨ n = 3 := by omega
  rcases h with rfl | rfl | rfl
  · exact ⟨fun q => by omega, fun q => by omega⟩
  · exact ⟨fun q => by omega, fun q => by omega⟩
  · exact ⟨fun q => by omega, fun q => by omega⟩
theorem rDg_s {I : IH} {p k : Nat} (hk : k < 5) : rDg I p (5 - k) = rDg I p (4 - k) / nW I k := by
  rw [show 5 - k = (4 - k) + 1 by omega, rDg, show 4 - (4 - k) = k by omega]
theorem odo {N : Nat} {I : IH} {L : LH} {R : RH} {K : KH} (hI : Inv N I L R K) {m k : Nat} (hk : k < 5) (h : rDg I (m + 1) (4 - k) = rDg I m (4 - k) + 1) : (dgP I m k + 1 < nW I k → dgP I (m + 1) k = dgP I m k + 1 ∧ rDg I (m + 1) (5 - k) = rDg I m (5 - k)) ∧ (¬ (dgP I m k + 1 < nW I k) → dgP I (m + 1) k = 0 ∧ rDg I (m + 1) (5 - k) = rDg I m (5 - k) + 1) := by
  have hn := nW_b hI hk
  have d := dm_succ (a := rDg I m (4 - k)) (n := nW I k) ⟨hn.1, hn.2.1⟩
  rw [rDg_s hk, rDg_s hk]
  unfold dgP
  rw [h]
  exact d
theorem rDg_same {I : IH} {m j : Nat} (h : rDg I (m + 1) j = rDg I m j) : ∀ i, rDg I (m + 1) (j + i) = rDg I m (j + i) := by
  intro i
  induction i with
  | zero => exact h
  | succ i ih => rw [show j + (i + 1) = (j + i) + 1 by omega, rDg, rDg, ih]
theorem dgP_same {I : IH} {m k : Nat} (hk : k < 5) (h : rDg I (m + 1) (5 - k) = rDg I m (5 - k)) : ∀ i, i < k → dgP I (m + 1) i = dgP I m i := by
  intro i hi
  unfold dgP
  have := rDg_same h (k - 1 - i)
  rw [show 5 - k + (k - 1 - i) = 4 - i by omega] at this
  rw [this]
theorem rDg_0 {I : IH} : ∀ j, rDg I 0 j = 0 := by
  intro j
  induction j with
  | zero => rfl
  | succ j ih => rw [rDg, ih, Nat.zero_div]
theorem rDg_W {N : Nat} {I : IH} {L : LH} {R : RH} {K : KH} (hI : Inv N I L R K) {p : Nat} : rDg I p 5 = 0 ↔ p < NN I 5 := by
  have h0 := (nW_b hI (k := 0) (by omega)).1
  have h1 := (nW_b hI (k := 1) (by omega)).1
  have h2 := (nW_b hI (k := 2) (by omega)).1
  have h3 := (nW_b hI (k := 3) (by omega)).1
  have h4 := (nW_b hI (k := 4) (by omega)).1
  have e : rDg I p 5 = p / nW I 4 / nW I 3 / nW I 2 / nW I 1 / nW I 0 := rfl
  have e2 : NN I 5 = nW I 0 * nW I 1 * nW I 2 * nW I 3 * nW I 4 := by
    show 1 * nW I 0 * nW I 1 * nW I 2 * nW I 3 * nW I 4 = _
    rw [Nat.one_mul]
  rw [e, e2, Nat.div_eq_zero_iff, Nat.div_lt_iff_lt_mul (by omega), Nat.div_lt_iff_lt_mul (by omega), Nat.div_lt_iff_lt_mul (by omega), Nat.div_lt_iff_lt_mul (by omega)]
  exact ⟨fun g => by rcases g with g | g; omega; exact g, fun g => .inr g⟩
theorem FindS.st {I J : IH} (h : FindS I J) {k : Nat} {v : Int} : FindS I (setF J 128 k v) := by
  obtain ⟨f1, f2, f3, f4⟩ := h
  exact ⟨sg_s f1 (by unfold S0; omega), fun c hc => by rw [setF_c (by omega)]; exact f2 c hc, fun c s hc hs => by rw [setF_c (by omega)]; exact f3 c s hc hs, fun s hs => by rw [setF_c (by omega), setF_c (by omega)]; exact f4 s hs⟩
theorem w_141_0 {sc : Nat × (Nat → Int)} {I : IH} {L : LH} {R : RH} {K : KH} {Q : AQ} {a0 : Int} {ib : IH} {nb : Nat} (hL : Lay R K) (h : (((0 : Int) ≤ a0 ∧ a0 ≤ (1 : Int) → ((Inv nb ib L R K ∧ Sg ib I)) ∧ (∀ (J1 : IH), (FindS ib J1) → (∀ j, J1 128 j = I 128 j) → E sc 141 17 [some (aR (some 77)), some (aI a0), some (aI 0), none, none, none, none] [] J1 L R K Q)) ∧ (¬((0 : Int) ≤ a0 ∧ a0 ≤ (1 : Int)) → Q (some (aI (-1))) I L R K))) : E sc 141 0 [some (aR (some 77)), some (aI a0), none, none, none, none, none] [] I L R K Q :=
  e_iload_n mb_141 dX12_near_0 rfl (e_iconst mb_141 dX12_near_1 cv_iconst_0 (e_iconst mb_141 dX12_near_2 cv_iconst_1 (e_callS mb_141 dX12_near_3 mf_141 mf_66 cs_49329 rfl rfl rfl rfl (v_66 hL (show E _ _ _ _ (_ :: _) _ _ _ _ _ from e_ifb_ne mb_141 dX12_near_6 rfl ⟨fun q1 => e_aload_n mb_141 dX12_near_11 rfl (e_callV mb_141 dX12_near_12 mf_141 mf_138 cs_49492 rfl rfl rfl rfl (lk_77 hL) rfl (v_138 hL (h.1 q1).1 (fun J1 hp2 hp3 => (show E _ _ _ _ [] _ _ _ _ _ from e_iconst mb_141 dX12_near_15 cv_iconst_0 (e_istore_n (l1 := [some (aR (some 77)), some (aI a0), some (aI 0), none, none, none, none]) mb_141 dX12_near_16 rfl (((h.1 q1).2 J1 hp2 hp3))))))), fun q1 => e_iconst mb_141 dX12_near_9 cv_iconst_m1 (e_ireturn mb_141 dX12_near_10 ri_141 (h.2 q1))⟩)))))
theorem w_141_17 {sc : Nat × (Nat → Int)} {I : IH} {L : LH} {R : RH} {K : KH} {Q : AQ} {x1 x2 : Int} {o3 o4 o5 o6 : Option AV} (no3 : nL o3) (no4 : nL o4) (no5 : nL o5) (no6 : nL o6) (hL : Lay R K) (h : ((5 ≤ x2 → E sc 141 42 [some (aR (some 77)), some (aI x1), some (aI (-1)), some (aI (-1)), some (aI 1), o5, o6] [] I L R K Q) ∧ (x2 < 5 → (((0 : Int) ≤ x2 ∧ x2 < (5 : Int))) ∧ ((-2147483648 : Int) ≤ x2 + 1 ∧ x2 + 1 < (2147483648 : Int)) ∧ E sc 141 17 [some (aR (some 77)), some (aI x1), some (aI (x2 + 1)), o3, o4, o5, o6] [] (setF I 128 x2.toNat 0) L R K Q))) : E sc 141 17 [some (aR (some 77)), some (aI x1), some (aI x2), o3, o4, o5, o6] [] I L R K Q :=
  e_iload_n mb_141 dX12_near_17 rfl (e_iconst mb_141 dX12_near_18 cv_iconst_5 (e_icmp mb_141 dX12_near_19 rfl (fun q1 => e_iconst mb_141 dX12_near_35 cv_iconst_m1 (e_istore_n (l1 := [some (aR (some 77)), some (aI x1), some (aI (-1)), o3, o4, o5, o6]) mb_141 dX12_near_36 rfl (e_iconst mb_141 dX12_near_37 cv_iconst_m1 (e_istore_n (l1 := [some (aR (some 77)), some (aI x1), some (aI (-1)), some (aI (-1)), o4, o5, o6]) mb_141 dX12_near_38 rfl (e_iconst mb_141 dX12_near_39 cv_iconst_1 (e_istore (l1 := [some (aR (some 77)), some (aI x1), some (aI (-1)), some (aI (-1)), some (aI 1), o5, o6]) mb_141 dX12_near_40 rfl ((h.1 (cb_ge.1.mp q1))))))))) (fun q1 => e_aload_n mb_141 dX12_near_22 rfl (e_getr mb_141 dX12_near_23 mf_141.1 fs_49320 fk_12_65 (lk_77 hL) (lr_77_65 hL) (e_iload_n mb_141 dX12_near_26 rfl (e_iconst mb_141 dX12_near_27 cv_iconst_0 (e_iastore mb_141 dX12_near_28 (lk_128 hL) (ll_128 hL) (h.2 (cb_ge.2.mp q1)).1 (e_iinc (l1 := [some (aR (some 77)), some (aI x1), some (aI (x2 + 1)), o3, o4, o5, o6]) mb_141 dX12_near_29 rfl (h.2 (cb_ge.2.mp q1)).2.1 rfl (e_goto mb_141 dX12_near_32 rfl ((h.2 (cb_ge.2.mp q1)).2.2))))))))))
theorem w_141_42 {sc : Nat × (Nat → Int)} {I : IH} {L : LH} {R : RH} {K : KH} {Q : AQ} {x1 x2 x3 x4 : Int} {o5 o6 : Option AV} (no5 : nL o5) (no6 : nL o6) {ib : IH} {nb : Nat} (hL : Lay R K) (h : ((x4 = 0 → ((x1 ≠ 0 → Q (some (aI x3)) I L R K) ∧ (x1 = 0 → Q (some (aI x2)) I L R K))) ∧ (x4 ≠ 0 → ((Inv nb ib L R K ∧ FindS ib I ∧ TknOK ib I)) ∧ (((KepI ib (tkn I) 1536) ≤ x3 → E sc 141 112 [some (aR (some 77)), some (aI x1), some (aI x2), some (aI x3), some (aI x4), some (aI (KepI ib (tkn I) 1536)), some (aI 4)] [] I L R K Q) ∧ (x3 < (KepI ib (tkn I) 1536) → ((-2147483648 : Int) ≤ 4 * (I 128 1) ∧ 4 * (I 128 1) < (2147483648 : Int)) ∧ ((-2147483648 : Int) ≤ (I 128 0) + (4 * (I 128 1)) ∧ (I 128 0) + (4 * (I 128 1)) < (2147483648 : Int)) ∧ ((-2147483648 : Int) ≤ 16 * (I 128 2) ∧ 16 * (I 128 2) < (2147483648 : Int)) ∧ ((-2147483648 : Int) ≤ ((I 128 0) + (4 * (I 128 1))) + (16 * (I 128 2)) ∧ ((I 128 0) + (4 * (I 128 1))) + (16 * (I 128 2)) < (2147483648 : Int)) ∧ ((-2147483648 : Int) ≤ 64 * (I 128 3) ∧ 64 * (I 128 3) < (2147483648 : Int)) ∧ ((-2147483648 : Int) ≤ (((I 128 0) + (4 * (I 128 1))) + (16 * (I 128 2))) + (64 * (I 128 3)) ∧ (((I 128 0) + (4 * (I 128 1))) + (16 * (I 128 2))) + (64 * (I 128 3)) < (2147483648 : Int)) ∧ ((-2147483648 : Int) ≤ 256 * (I 128 4) ∧ 256 * (I 128 4) < (2147483648 : Int)) ∧ ((-2147483648 : Int) ≤ ((((I 128 0) + (4 * (I 128 1))) + (16 * (I 128 2))) + (64 * (I 128 3))) + (256 * (I 128 4)) ∧ ((((I 128 0) + (4 * (I 128 1))) + (16 * (I 128 2))) + (64 * (I 128 3))) + (256 * (I 128 4)) < (2147483648 : Int)) ∧ E sc 141 112 [some (aR (some 77)), some (aI x1), some (aI (((((I 128 0) + (4 * (I 128 1))) + (16 * (I 128 2))) + (64 * (I 128 3))) + (256 * (I 128 4)))), some (aI (KepI ib (tkn I) 1536)), some (aI x4), some (aI (KepI ib (tkn I) 1536)), some (aI 4)] [] I L R K Q))))) : E sc 141 42 [some (aR (some 77)), some (aI x1), some (aI x2), some (aI x3), some (aI x4), o5, o6] [] I L R K Q :=
  e_iload mb_141 dX12_near_42 rfl (e_if mb_141 dX12_near_44 rfl (fun q1 => e_iload_n mb_141 dX12_near_181 rfl (e_if mb_141 dX12_near_182 rfl (fun q2 => e_iload_n mb_141 dX12_near_189 rfl (e_ireturn mb_141 dX12_near_190 ri_141 ((h.1 (cb_eq.1.mp q1)).1 (cb_ne.1.mp q2)))) (fun q2 => e_iload_n mb_141 dX12_near_185 rfl (e_goto mb_141 dX12_near_186 rfl (e_ireturn mb_141 dX12_near_190 ri_141 ((h.1 (cb_eq.1.mp q1)).2 (cb_ne.2.mp q2))))))) (fun q1 => e_aload_n mb_141 dX12_near_47 rfl (e_callV mb_141 dX12_near_48 mf_141 mf_139 cs_49495 rfl rfl rfl rfl (lk_77 hL) rfl (v_139 hL (h.2 (cb_eq.2.mp q1)).1 (show E _ _ _ _ (_ :: _) _ _ _ _ _ from e_istore (l1 := [some (aR (some 77)), some (aI x1), some (aI x2), some (aI x3), some (aI x4), some (aI (KepI ib (tkn I) 1536)), o6]) mb_141 dX12_near_51 rfl (e_iload mb_141 dX12_near_53 rfl (e_iload_n mb_141 dX12_near_55 rfl (e_icmp mb_141 dX12_near_56 rfl (fun q3 => e_iconst mb_141 dX12_near_109 cv_iconst_4 (e_istore (l1 := [some (aR (some 77)), some (aI x1), some (aI x2), some (aI x3), some (aI x4), some (aI (KepI ib (tkn I) 1536)), some (aI 4)]) mb_141 dX12_near_110 rfl (((h.2 (cb_eq.2.mp q1)).2.1 (cb_le.1.mp q3))))) (fun q3 => e_iload mb_141 dX12_near_59 rfl (e_istore_n (l1 := [some (aR (some 77)), some (aI x1), some (aI x2), some (aI (KepI ib (tkn I) 1536)), some (aI x4), some (aI (KepI ib (tkn I) 1536)), o6]) mb_141 dX12_near_61 rfl (e_aload_n mb_141 dX12_near_62 rfl (e_getr mb_141 dX12_near_63 mf_141.1 fs_49320 fk_12_65 (lk_77 hL) (lr_77_65 hL) (e_iconst mb_141 dX12_near_66 cv_iconst_0 (e_ial mb_141 dX12_near_67 (lk_128 hL) (ll_128 hL) ⟨by decide, by decide⟩ rfl (e_iconst mb_141 dX12_near_68 cv_iconst_4 (e_aload_n mb_141 dX12_near_69 rfl (e_getr mb_141 dX12_near_70 mf_141.1 fs_49320 fk_12_65 (lk_77 hL) (lr_77_65 hL) (e_iconst mb_141 dX12_near_73 cv_iconst_1 (e_ial mb_141 dX12_near_74 (lk_128 hL) (ll_128 hL) ⟨by decide, by decide⟩ rfl (e_imul mb_141 dX12_near_75 ((h.2 (cb_eq.2.mp q1)).2.2 (cb_le.2.mp q3)).1 (e_iadd mb_141 dX12_near_76 ((h.2 (cb_eq.2.mp q1)).2.2 (cb_le.2.mp q3)).2.1 (e_bipush mb_141 dX12_near_77 cv_bipush_16 (e_aload_n mb_141 dX12_near_79 rfl (e_getr mb_141 dX12_near_80 mf_141.1 fs_49320 fk_12_65 (lk_77 hL) (lr_77_65 hL) (e_iconst mb_141 dX12_near_83 cv_iconst_2 (e_ial mb_141 dX12_near_84 (lk_128 hL) (ll_128 hL) ⟨by decide, by decide⟩ rfl (e_imul mb_141 dX12_near_85 ((h.2 (cb_eq.2.mp q1)).2.2 (cb_le.2.mp q3)).2.2.1 (e_iadd mb_141 dX12_near_86 ((h.2 (cb_eq.2.mp q1)).2.2 (cb_le.2.mp q3)).2.2.2.1 (e_bipush mb_141 dX12_near_87 cv_bipush_64 (e_aload_n mb_141 dX12_near_89 rfl (e_getr mb_141 dX12_near_90 mf_141.1 fs_49320 fk_12_65 (lk_77 hL) (lr_77_65 hL) (e_iconst mb_141 dX12_near_93 cv_iconst_3 (e_ial mb_141 dX12_near_94 (lk_128 hL) (ll_128 hL) ⟨by decide, by decide⟩ rfl (e_imul mb_141 dX12_near_95 ((h.2 (cb_eq.2.mp q1)).2.2 (cb_le.2.mp q3)).2.2.2.2.1 (e_iadd mb_141 dX12_near_96 ((h.2 (cb_eq.2.mp q1)).2.2 (cb_le.2.mp q3)).2.2.2.2.2.1 (e_sipush mb_141 dX12_near_97 cv_sipush_256 (e_aload_n mb_141 dX12_near_100 rfl (e_getr mb_141 dX12_near_101 mf_141.1 fs_49320 fk_12_65 (lk_77 hL) (lr_77_65 hL) (e_iconst mb_141 dX12_near_104 cv_iconst_4 (e_ial mb_141 dX12_near_105 (lk_128 hL) (ll_128 hL) ⟨by decide, by decide⟩ rfl (e_imul mb_141 dX12_near_106 ((h.2 (cb_eq.2.mp q1)).2.2 (cb_le.2.mp q3)).2.2.2.2.2.2.1 (e_iadd mb_141 dX12_near_107 ((h.2 (cb_eq.2.mp q1)).2.2 (cb_le.2.mp q3)).2.2.2.2.2.2.2.1 (e_istore_n (l1 := [some (aR (some 77)), some (aI x1), some (aI (((((I 128 0) + (4 * (I 128 1))) + (16 * (I 128 2))) + (64 * (I 128 3))) + (256 * (I 128 4)))), some (aI (KepI ib (tkn I) 1536)), some (aI x4), some (aI (KepI ib (tkn I) 1536)), o6]) mb_141 dX12_near_108 rfl (e_iconst mb_141 dX12_near_109 cv_iconst_4 (e_istore (l1 := [some (aR (some 77)), some (aI x1), some (aI (((((I 128 0) + (4 * (I 128 1))) + (16 * (I 128 2))) + (64 * (I 128 3))) + (256 * (I 128 4)))), some (aI (KepI ib (tkn I) 1536)), some (aI x4), some (aI (KepI ib (tkn I) 1536)), some (aI 4)]) mb_141 dX12_near_110 rfl (((h.2 (cb_eq.2.mp q1)).2.2 (cb_le.2.mp q3)).2.2.2.2.2.2.2.2))))))))))))))))))))))))))))))))))))))))))))))
theorem w_141_112 {sc : Nat × (Nat → Int)} {I : IH} {L : LH} {R : RH} {K : KH} {Q : AQ} {x1 x2 x3 x6 : Int} {o4 o5 : Option AV} (no4 : nL o4) (no5 : nL o5) (hL : Lay R K) (h : ((x6 < 0 → ((x6 < 0 → E sc 141 42 [some (aR (some 77)), some (aI x1), some (aI x2), some (aI x3), some (aI 0), o5, some (aI x6)] [] I L R K Q) ∧ (0 ≤ x6 → (((0 : Int) ≤ x6 ∧ x6 < (5 : Int))) ∧ ((-2147483648 : Int) ≤ (I 128 x6.toNat) + 1 ∧ (I 128 x6.toNat) + 1 < (2147483648 : Int)) ∧ (((0 : Int) ≤ x6 ∧ x6 < (5 : Int))) ∧ E sc 141 42 [some (aR (some 77)), some (aI x1), some (aI x2), some (aI x3), some (aI 1), o5, some (aI x6)] [] (setF I 128 x6.toNat ((I 128 x6.toNat) + 1)) L R K Q))) ∧ (0 ≤ x6 → (((0 : Int) ≤ x6 ∧ x6 < (5 : Int))) ∧ ((-2147483648 : Int) ≤ (I 128 x6.toNat) + 1 ∧ (I 128 x6.toNat) + 1 < (2147483648 : Int)) ∧ (((0 : Int) ≤ x6 ∧ x6 < (5 : Int))) ∧ ((((I 128 x6.toNat) + 1) < (I 111 x6.toNat) → ((x6 < 0 → E sc 141 42 [some (aR (some 77)), some (aI x1), some (aI x2), some (aI x3), some (aI 0), o5, some (aI x6)] [] I L R K Q) ∧ (0 ≤ x6 → (((0 : Int) ≤ x6 ∧ x6 < (5 : Int))) ∧ ((-2147483648 : Int) ≤ (I 128 x6.toNat) + 1 ∧ (I 128 x6.toNat) + 1 < (2147483648 : Int)) ∧ (((0 : Int) ≤ x6 ∧ x6 < (5 : Int))) ∧ E sc 141 42 [some (aR (some 77)), some (aI x1), some (aI x2), some (aI x3), some (aI 1), o5, some (aI x6)] [] (setF I 128 x6.toNat ((I 128 x6.toNat) + 1)) L R K Q))) ∧ ((I 111 x6.toNat) ≤ ((I 128 x6.toNat) + 1) → (((0 : Int) ≤ x6 ∧ x6 < (5 : Int))) ∧ ((-2147483648 : Int) ≤ x6 + (-1) ∧ x6 + (-1) < (2147483648 : Int)) ∧ E sc 141 112 [some (aR (some 77)), some (aI x1), some (aI x2), some (aI x3), o4, o5, some (aI (x6 + (-1)))] [] (setF I 128 x6.toNat 0) L R K Q))))) : E sc 141 112 [some (aR (some 77)), some (aI x1), some (aI x2), some (aI x3), o4, o5, some (aI x6)] [] I L R K Q :=
  e_iload mb_141 dX12_near_112 rfl (e_if mb_141 dX12_near_114 rfl (fun q1 => e_iload mb_141 dX12_near_150 rfl (e_if mb_141 dX12_near_152 rfl (fun q2 => e_iconst mb_141 dX12_near_159 cv_iconst_0 (e_istore (l1 := [some (aR (some 77)), some (aI x1), some (aI x2), some (aI x3), some (aI 0), o5, some (aI x6)]) mb_141 dX12_near_160 rfl (e_iload mb_141 dX12_near_162 rfl (e_if mb_141 dX12_near_164 rfl (fun _ => e_goto mb_141 dX12_near_178 rfl (((h.1 (cb_lt.1.mp q1)).1 (cb_lt.1.mp q2)))) (fun q => absurd q (by decide)))))) (fun q2 => e_iconst mb_141 dX12_near_155 cv_iconst_1 (e_goto mb_141 dX12_near_156 rfl (e_istore (l1 := [some (aR (some 77)), some (aI x1), some (aI x2), some (aI x3), some (aI 1), o5, some (aI x6)]) mb_141 dX12_near_160 rfl (e_iload mb_141 dX12_near_162 rfl (e_if mb_141 dX12_near_164 rfl (fun q => absurd q (by decide)) (fun _ => e_aload_n mb_141 dX12_near_167 rfl (e_getr mb_141 dX12_near_168 mf_141.1 fs_49320 fk_12_65 (lk_77 hL) (lr_77_65 hL) (e_iload mb_141 dX12_near_171 rfl (e_dup2 mb_141 dX12_near_173 ⟨rfl, rfl⟩ (e_ial mb_141 dX12_near_174 (lk_128 hL) (ll_128 hL) ((h.1 (cb_lt.1.mp q1)).2 (cb_lt.2.mp q2)).1 rfl (e_iconst mb_141 dX12_near_175 cv_iconst_1 (e_iadd mb_141 dX12_near_176 ((h.1 (cb_lt.1.mp q1)).2 (cb_lt.2.mp q2)).2.1 (e_iastore mb_141 dX12_near_177 (lk_128 hL) (ll_128 hL) ((h.1 (cb_lt.1.mp q1)).2 (cb_lt.2.mp q2)).2.2.1 (e_goto mb_141 dX12_near_178 rfl (((h.1 (cb_lt.1.mp q1)).2 (cb_lt.2.mp q2)).2.2.2))))))))))))))))) (fun q1 => e_aload_n mb_141 dX12_near_117 rfl (e_getr mb_141 dX12_near_118 mf_141.1 fs_49320 fk_12_65 (lk_77 hL) (lr_77_65 hL) (e_iload mb_141 dX12_near_121 rfl (e_ial mb_141 dX12_near_123 (lk_128 hL) (ll_128 hL) (h.2 (cb_lt.2.mp q1)).1 rfl (e_iconst mb_141 dX12_near_124 cv_iconst_1 (e_iadd mb_141 dX12_near_125 (h.2 (cb_lt.2.mp q1)).2.1 (e_aload_n mb_141 dX12_near_126 rfl (e_getr mb_141 dX12_near_127 mf_141.1 fs_49266 fk_12_41 (lk_77 hL) (lr_77_41 hL) (e_iload mb_141 dX12_near_130 rfl (e_ial mb_141 dX12_near_132 (lk_111 hL) (ll_111 hL) (h.2 (cb_lt.2.mp q1)).2.2.1 rfl (e_icmp mb_141 dX12_near_133 rfl (fun q3 => e_iload mb_141 dX12_near_150 rfl (e_if mb_141 dX12_near_152 rfl (fun q4 => e_iconst mb_141 dX12_near_159 cv_iconst_0 (e_istore (l1 := [some (aR (some 77)), some (aI x1), some (aI x2), some (aI x3), some (aI 0), o5, some (aI x6)]) mb_141 dX12_near_160 rfl (e_iload mb_141 dX12_near_162 rfl (e_if mb_141 dX12_near_164 rfl (fun _ => e_goto mb_141 dX12_near_178 rfl ((((h.2 (cb_lt.2.mp q1)).2.2.2.1 (cb_lt.1.mp q3)).1 (cb_lt.1.mp q4)))) (fun q => absurd q (by decide)))))) (fun q4 => e_iconst mb_141 dX12_near_155 cv_iconst_1 (e_goto mb_141 dX12_near_156 rfl (e_istore (l1 := [some (aR (some 77)), some (aI x1), some (aI x2), some (aI x3), some (aI 1), o5, some (aI x6)]) mb_141 dX12_near_160 rfl (e_iload mb_141 dX12_near_162 rfl (e_if mb_141 dX12_near_164 rfl (fun q => absurd q (by decide)) (fun _ => e_aload_n mb_141 dX12_near_167 rfl (e_getr mb_141 dX12_near_168 mf_141.1 fs_49320 fk_12_65 (lk_77 hL) (lr_77_65 hL) (e_iload mb_141 dX12_near_171 rfl (e_dup2 mb_141 dX12_near_173 ⟨rfl, rfl⟩ (e_ial mb_141 dX12_near_174 (lk_128 hL) (ll_128 hL) (((h.2 (cb_lt.2.mp q1)).2.2.2.1 (cb_lt.1.mp q3)).2 (cb_lt.2.mp q4)).1 rfl (e_iconst mb_141 dX12_near_175 cv_iconst_1 (e_iadd mb_141 dX12_near_176 (((h.2 (cb_lt.2.mp q1)).2.2.2.1 (cb_lt.1.mp q3)).2 (cb_lt.2.mp q4)).2.1 (e_iastore mb_141 dX12_near_177 (lk_128 hL) (ll_128 hL) (((h.2 (cb_lt.2.mp q1)).2.2.2.1 (cb_lt.1.mp q3)).2 (cb_lt.2.mp q4)).2.2.1 (e_goto mb_141 dX12_near_178 rfl ((((h.2 (cb_lt.2.mp q1)).2.2.2.1 (cb_lt.1.mp q3)).2 (cb_lt.2.mp q4)).2.2.2))))))))))))))))) (fun q3 => e_aload_n mb_141 dX12_near_136 rfl (e_getr mb_141 dX12_near_137 mf_141.1 fs_49320 fk_12_65 (lk_77 hL) (lr_77_65 hL) (e_iload mb_141 dX12_near_140 rfl (e_iconst mb_141 dX12_near_142 cv_iconst_0 (e_iastore mb_141 dX12_near_143 (lk_128 hL) (ll_128 hL) ((h.2 (cb_lt.2.mp q1)).2.2.2.2 (cb_lt.2.mp q3)).1 (e_iinc (l1 := [some (aR (some 77)), some (aI x1), some (aI x2), some (aI x3), o4, o5, some (aI (x6 + (-1)))]) mb_141 dX12_near_144 rfl ((h.2 (cb_lt.2.mp q1)).2.2.2.2 (cb_lt.2.mp q3)).2.1 (aset_nl no5 rfl rfl rfl) (e_goto mb_141 dX12_near_147 rfl (((h.2 (cb_lt.2.mp q1)).2.2.2.2 (cb_lt.2.mp q3)).2.2))))))))))))))))))))
theorem v_141 {N : Nat} {sc : Nat × (Nat → Int)} {I J : IH} {L : LH} {R : RH} {K : KH} {Q : AQ} {w : Int} (hL : Lay R K) (hI : Inv N I L R K) (hs : Sg I J) (hw : 0 ≤ w ∧ w ≤ 1) (h : ∀ J2, Sg I J2 → Q (some (aI (if w = 0 then wrP I (bsgF (plK I) (NN I 5)).1.toNat else (bsgF (plK I) (NN I 5)).2))) J2 L R K) : E sc 141 0 [some (aR (some 77)), some (aI w), none, none, none, none, none] [] J L R K Q := by
  have pos : ∀ p, 0 ≤ plK I p := fun p => (KPp_b hI 1536).1
  have hN5 := NN_b hI 5 (by omega)
  have main : (fun m : Nat => ∀ (x2 x3 : Int) (J : IH) (o5 o6 : Option AV), nL o5 → nL o6 → FindS I J → x3 = (bsgF (plK I) m).2 → (m = 0 ∨ x2 = wrP I (bsgF (plK I) m).1.toNat) → (m < NN I 5 → ∀ k, k < 5 → J 128 k = (dgP I m k : Int)) → E sc 141 42 [some (aR (some 77)), some (aI w), some (aI x2), some (aI x3), some (aI (if m < NN I 5 then 1 else 0)), o5, o6] [] J L R K Q) 0 := by
    refine loop_up (C := fun m : Nat => ∀ (x2 x3 : Int) (J : IH) (o5 o6 : Option AV), nL o5 → nL o6 → FindS I J → x3 = (bsgF (plK I) m).2 → (m = 0 ∨ x2 = wrP I (bsgF (plK I) m).1.toNat) → (m < NN I 5 → ∀ k, k < 5 → J 128 k = (dgP I m k : Int)) → E sc 141 42 [some (aR (some 77)), some (aI w), some (aI x2), some (aI x3), some (aI (if m < NN I 5 then 1 else 0)), o5, o6] [] J L R K Q) (NN I 5) ?_ ?_
    · intro m hm hc x2 x3 J o5 o6 n5 n6 hF hx3 hx2 h128
      have h128 := h128 hm
      rw [if_pos hm]
      have etk : ∀ k, k < 5 → tkn J k = dgP I m k := fun k hk => by unfold tkn; rw [h128 k hk]; omega
      have eK : KepI I (tkn J) 1536 = plK I m := by rw [plK_eq]; exact KepI_c etk
      have hd : DigOK I (tkn J) := fun k hk => by rw [etk k hk]; exact dgP_ok hI k hk
      -- the next writing
      have next : ∀ (x2 x3 : Int) (o4 o5 : Option AV), nL o4 → nL o5 → x3 = (bsgF (plK I) (m + 1)).2 → x2 = wrP I (bsgF (plK I) (m + 1)).1.toNat → E sc 141 112 [some (aR (some 77)), some (aI w), some (aI x2), some (aI x3), o4, o5, some (aI 4)] [] J L R K Q := by
        intro x2 x3 o4 o5 n4 n5 hx3 hx2
        have step : ∀ k : Nat, k ≤ 5 → ∀ (y : Int) (J2 : IH), y = (k : Int) - 1 → FindS I J2 → (∀ j, j < k → J2 128 j = (dgP I m j : Int)) → (∀ j, k ≤ j → j < 5 → J2 128 j = (dgP I (m + 1) j : Int)) → rDg I (m + 1) (5 - k) = rDg I m (5 - k) + 1 → E sc 141 112 [some (aR (some 77)), some (aI w), some (aI x2), some (aI x3), o4, o5, some (aI y)] [] J2 L R K Q := by
          intro k
          induction k with
          | zero =>
            intro _ y J2 hy hF2 ha hb hr
            have hz := (rDg_W hI (p := m)).2 hm
            have hr : rDg I (m + 1) 5 = rDg I m 5 + 1 := hr
            have hnW : ¬ m + 1 < NN I 5 := fun g => by have := (rDg_W hI (p := m + 1)).2 g; omega
            have := hc x2 x3 J2 o5 (some (aI y)) n5 nl_i hF2 hx3 (.inr hx2) (fun g => absurd g hnW)
            rw [if_neg hnW] at this
            exact w_141_112 n4 n5 hL ⟨fun q1 => ⟨fun q2 => this, fun q2 => by omega⟩, fun q1 => by omega⟩
          | succ k ih =>
            intro hk5 y J2 hy hF2 ha hb hr
            have hy : y = (k : Int) := by omega
            subst hy
            have hk : k < 5 := by omega
            rw [show 5 - (k + 1) = 4 - k by omega] at hr
            have ho := odo hI hk hr
            have e111 : J2 111 k = I 111 k := hF2.1 111 k (by unfold S0; omega)
            have eJ := ha k (by omega)
            have hn := nW_b hI hk
            have hdb := dgP_b hI (p := m) hk
            refine w_141_112 n4 n5 hL ?_
            simp only [Int.toNat_natCast]
            rw [e111, eJ]
            refine ⟨fun q1 => by omega, fun q1 => ⟨by omega, by omega, by omega, fun q3 => ⟨fun q4 => by omega, fun q4 => ⟨by omega, by omega, by omega, ?_⟩⟩, fun q3 => ⟨by omega, by omega, ?_⟩⟩⟩
            · have hlt : dgP I m k + 1 < nW I k := by have := hn.2.2.2.1 (by omega); omega
              have h1 := ho.1 hlt
              have hz := (rDg_W hI (p := m)).2 hm
              have hs5 := rDg_same h1.2 k
              rw [show 5 - k + k = 5 by omega] at hs5
              have hnW : m + 1 < NN I 5 := (rDg_W hI (p := m + 1)).1 (by rw [hs5]; exact hz)
              have := hc x2 x3 (setF J2 128 k ((dgP I m k : Int) + 1)) o5 (some (aI (k : Int))) n5 nl_i hF2.st hx3 (.inr hx2) (fun _ j hj => by
                rw [setF_i]
                by_cases q : j = k
                · rw [if_pos q, q, h1.1]; omega
                · rw [if_neg q]
                  by_cases q2 : j < k
                  · rw [ha j (by omega), dgP_same hk h1.2 j q2]
                  · exact hb j (by omega) hj)
              rw [if_pos hnW] at this
              exact this
            · have hge : ¬ (dgP I m k + 1 < nW I k) := by
                by_cases q : 0 < I 111 k
                · have := hn.2.2.2.1 q; omega
                · have := hn.2.2.1 (by omega); omega
              have h1 := ho.2 hge
              exact ih (by omega) _ _ (by omega) hF2.st (fun j hj => by rw [setF_i, if_neg (by omega)]; exact ha j (by omega)) (fun j hj1 hj2 => by
                rw [setF_i]
                by_cases q : j = k
                · rw [if_pos q, q, h1.1]; rfl
                · rw [if_neg q]; exact hb j (by omega) hj2) h1.2
        exact step 5 (Nat.le_refl _) _ _ rfl hF (fun j hj => h128 j hj) (fun j h1 h2 => by omega) rfl
      refine w_141_42 (ib := I) (nb := N) n5 n6 hL ⟨fun q1 => by omega, fun q1 => ⟨⟨hI, hF, hd, fun k hk => by rw [h128 k hk]; omega⟩, ?_⟩⟩
      rw [eK]
      refine ⟨fun q2 => next _ _ _ _ nl_i nl_i ?_ ?_, fun q2 => ?_⟩
      · rw [bsgF, if_neg (by omega)]; exact hx3
      · rcases hx2 with g | g
        · subst g
          have e : (bsgF (plK I) 0).2 = -1 := rfl
          have := pos 0
          omega
        · rw [bsgF, if_neg (by omega)]; exact g
      · have e0 := h128 0 (by omega)
        have e1 := h128 1 (by omega)
        have e2 := h128 2 (by omega)
        have e3 := h128 3 (by omega)
        have e4 := h128 4 (by omega)
        have b0 := dgP_b hI (p := m) (k := 0) (by omega)
        have b1 := dgP_b hI (p := m) (k := 1) (by omega)
        have b2 := dgP_b hI (p := m) (k := 2) (by omega)
        have b3 := dgP_b hI (p := m) (k := 3) (by omega)
        have b4 := dgP_b hI (p := m) (k := 4) (by omega)
        have c0 := nW_b hI (k := 0) (by omega)
        have c1 := nW_b hI (k := 1) (by omega)
        have c2 := nW_b hI (k := 2) (by omega)
        have c3 := nW_b hI (k := 3) (by omega)
        have c4 := nW_b hI (k := 4) (by omega)
        rw [e0, e1, e2, e3, e4]
        refine ⟨by omega, by omega, by omega, by omega, by omega, by omega, by omega, by omega, next _ _ _ _ nl_i nl_i ?_ ?_⟩
        · rw [bsgF, if_pos (by omega)]
        · rw [bsgF, if_pos (by omega)]
          show _ = wrP I (m : Int).toNat
          rw [Int.toNat_natCast]
          rfl
    · intro x2 x3 J o5 o6 n5 n6 hF hx3 hx2 h128
      rw [if_neg (Nat.lt_irrefl _)]
      have hq := h J hF.1
      have hx2 : x2 = wrP I (bsgF (plK I) (NN I 5)).1.toNat := by
        rcases hx2 with g | g
        · omega
        · exact g
      refine w_141_42 (ib := I) (nb := N) n5 n6 hL ⟨fun q1 => ⟨fun q2 => ?_, fun q2 => ?_⟩, fun q1 => absurd rfl q1⟩
      · rw [if_neg q2, ← hx3] at hq; exact hq
      · rw [if_pos q2, ← hx2] at hq; exact hq
  refine w_141_0 (ib := I) (nb := N) hL ⟨fun q1 => ⟨⟨hI, hs⟩, fun J1 hF1 _ => ?_⟩, fun q1 => absurd (by omega) q1⟩
  have z : (fun k : Nat => ∀ (y : Int) (J : IH) (o3 o4 o5 o6 : Option AV), nL o3 → nL o4 → nL o5 → nL o6 → y = (k : Int) → FindS I J → (∀ j, j < k → J 128 j = 0) → E sc 141 17 [some (aR (some 77)), some (aI w), some (aI y), o3, o4, o5, o6] [] J L R K Q) 0 := by
    refine loop_up (C := fun k : Nat => ∀ (y : Int) (J : IH) (o3 o4 o5 o6 : Option AV), nL o3 → nL o4 → nL o5 → nL o6 → y = (k : Int) → FindS I J → (∀ j, j < k → J 128 j = 0) → E sc 141 17 [some (aR (some 77)), some (aI w), some (aI y), o3, o4, o5, o6] [] J L R K Q) 5 ?_ ?_
    · intro k hk hc y J o3 o4 o5 o6 n3 n4 n5 n6 hy hF hz
      subst hy
      refine w_141_17 n3 n4 n5 n6 hL ⟨fun q1 => by omega, fun q1 => ⟨by omega, by omega, ?_⟩⟩
      rw [Int.toNat_natCast]
      refine hc _ _ _ _ _ _ n3 n4 n5 n6 (by omega) hF.st (fun j hj => ?_)
      rw [setF_i]
      by_cases q : j = k
      · rw [if_pos q]
      · rw [if_neg q]; exact hz j (by omega)
    · intro y J o3 o4 o5 o6 n3 n4 n5 n6 hy hF hz
      subst hy
      refine w_141_17 n3 n4 n5 n6 hL ⟨fun q1 => ?_, fun q1 => by omega⟩
      have := main (-1) (-1) J o5 o6 n5 n6 hF rfl (.inl rfl) (fun _ k hk => by
        rw [hz k hk]
        unfold dgP
        rw [rDg_0, Nat.zero_mod]
        rfl)
      rw [if_pos (by omega)] at this
      exact this
  exact z _ _ _ _ _ _ nl_n nl_n nl_n nl_n rfl hF1 (fun j hj => by omega)
theorem w_35_0 {sc : Nat × (Nat → Int)} {I : IH} {L : LH} {R : RH} {K : KH} {Q : AQ} {w : Int} {ib : IH} {nb : Nat} (hL : Lay R K) (h : (((0 : Int) ≤ w ∧ w ≤ (1 : Int) → ((Inv nb I L R K ∧ (I 0 12) = I 77 0)) ∧ (∀ (J1 : IH), (Sg I J1) → (∀ p, p < NN I 5 → J1 44 p = plK I p) → ((w ≠ 0 → ((0 ≤ ((bsgF (plK I) (NN I 5)).1) ∧ ((bsgF (plK I) (NN I 5)).1) < 243)) ∧ Q (some (aI (J1 44 ((bsgF (plK I) (NN I 5)).1).toNat))) J1 L R K) ∧ (w = 0 → ((Inv nb ib L R K ∧ Sg ib J1 ∧ 0 ≤ ((bsgF (plK I) (NN I 5)).1) ∧ ((bsgF (plK I) (NN I 5)).1) < 243)) ∧ Q (some (aI (wrP ib ((bsgF (plK I) (NN I 5)).1).toNat))) J1 L R K)))) ∧ (¬((0 : Int) ≤ w ∧ w ≤ (1 : Int)) → Q (some (aI (-1))) I L R K))) : E sc 35 0 [some (aR (some 0)), some (aI w), none] [] I L R K Q :=
  e_iload_n mb_35 dX11_near_0 rfl (e_iconst mb_35 dX11_near_1 cv_iconst_0 (e_iconst mb_35 dX11_near_2 cv_iconst_1 (e_callS mb_35 dX11_near_3 mf_35 mf_54 cs_45151 rfl rfl rfl rfl (v_54 hL (show E _ _ _ _ (_ :: _) _ _ _ _ _ from e_ifb_ne mb_35 dX11_near_6 rfl ⟨fun q1 => e_aload_n mb_35 dX11_near_11 rfl (e_getr mb_35 dX11_near_12 mf_35.1 fs_45106 fk_11_5 (lk_0 hL) (lr_0_5 hL) (e_aload_n mb_35 dX11_near_15 rfl (e_getv mb_35 dX11_near_16 mf_35.1 fs_45155 (Or.inl fk_11_12) (lk_0 hL) rfl (e_callV mb_35 dX11_near_19 mf_35 mf_303 cs_45399 rfl rfl rfl rfl (lk_36 hL) rfl (v_303y hL (h.1 q1).1 (fun J1 hp2 hp3 => (show E _ _ _ _ [aI ((bsgF (plK I) (NN I 5)).1)] _ _ _ _ _ from e_istore_n (l1 := [some (aR (some 0)), some (aI w), some (aI ((bsgF (plK I) (NN I 5)).1))]) mb_35 dX11_near_22 rfl (e_iload_n mb_35 dX11_near_23 rfl (e_if mb_35 dX11_near_24 rfl (fun q2 => e_aload_n mb_35 dX11_near_38 rfl (e_getr mb_35 dX11_near_39 mf_35.1 fs_45106 fk_11_5 (lk_0 hL) (lr_0_5 hL) (e_iload_n mb_35 dX11_near_42 rfl (e_callV mb_35 dX11_near_43 mf_35 mf_304 cs_45405 rfl rfl rfl rfl (lk_36 hL) rfl (v_304 hL (((h.1 q1).2 J1 hp2 hp3).1 (cb_ne.1.mp q2)).1 (show E _ _ _ _ (_ :: _) _ _ _ _ _ from e_ireturn mb_35 dX11_near_46 ri_35 (((h.1 q1).2 J1 hp2 hp3).1 (cb_ne.1.mp q2)).2)))))) (fun q2 => e_aload_n mb_35 dX11_near_27 rfl (e_getr mb_35 dX11_near_28 mf_35.1 fs_45106 fk_11_5 (lk_0 hL) (lr_0_5 hL) (e_iload_n mb_35 dX11_near_31 rfl (e_callV mb_35 dX11_near_32 mf_35 mf_305 cs_45402 rfl rfl rfl rfl (lk_36 hL) rfl (v_305y hL (((h.1 q1).2 J1 hp2 hp3).2 (cb_ne.2.mp q2)).1 (show E _ _ _ _ (_ :: _) _ _ _ _ _ from e_goto mb_35 dX11_near_35 rfl (e_ireturn mb_35 dX11_near_46 ri_35 (((h.1 q1).2 J1 hp2 hp3).2 (cb_ne.2.mp q2)).2)))))))))))))))), fun q1 => e_iconst mb_35 dX11_near_9 cv_iconst_m1 (e_ireturn mb_35 dX11_near_10 ri_35 (h.2 q1))⟩)))))
theorem c_34 {N : Nat} {sc : Nat × (Nat → Int)} {I : IH} {L : LH} {R : RH} {K : KH} {w : Int} (hI : Inv N I L R K) : E sc 35 0 [some (aR (some 0)), some (aI w), none] [] I L R K (fun rv I1 L1 R1 K1 => E sc 141 0 [some (aR (some 77)), some (aI w), none, none, none, none, none] [] I1 L1 R1 K1 (Fin (N + 1) rv)) := by
  have hL := hI.1
  have hS := iS hI
  unfold InvS at hS
  have pos : ∀ p, 0 ≤ plK I p := fun p => (KPp_b hI 1536).1
  have hN5 := NN_b hI 5 (by omega)
  have h243 := NN_243 hI (k := 5) (by omega)
  have hb := bsgF_b pos (NN I 5) hN5.1
  refine w_35_0 (ib := I) (nb := N) hL ⟨fun q1 => ⟨⟨hI, hS.1⟩, fun J hs hk => ⟨fun q2 => ⟨by omega, ?_⟩, fun q2 => ⟨⟨hI, hs, by omega⟩, ?_⟩⟩⟩, fun q1 => ?_⟩
  · rw [hk _ (by omega), ← hb.2.2]
    exact v_141 hL hI hs q1 (fun J2 hs2 => fin_b (inv_near (J2 := I) hI hs2) (by rw [if_neg q2]))
  · exact v_141 hL hI hs q1 (fun J2 hs2 => fin_b (inv_near (J2 := I) hI hs2) (by rw [if_pos q2]))
  · exact w_141_0 (ib := I) (nb := N) hL ⟨fun g => absurd g q1, fun g => fin_b (inv_up hI) rfl⟩
