/-! the law's run -/
theorem turn_sw {sc : Nat × (Nat → Int)} {N : Nat} {i x : Int} {I : IH} {L : LH} {R : RH} {K : KH} {Q : AQ} (A : Arm sc N i I L R K Q) : E sc 323 33 [some (aF 0), some (aR (some 0)), some (aR (some 77)), some (aI i)] [aI x] I L R K Q := by
  refine e_tsw mb_323 dL_law_33 (fun _ => ⟨2020, rfl, A.2.2.2.2 _ _ _ _ (inv_up A.1) A.2.1⟩) (fun q => ?_)
  obtain ⟨j, rfl⟩ : ∃ j : Nat, x = (j : Int) := ⟨x.toNat, by omega⟩
  have hj : j < 50 := by omega
  rw [show ((j : Int) - 0).toNat = j by omega]
  match j, hj with
  | 0, _ => exact ⟨215, 248, rfl, rfl, arm_0 A⟩
  | 1, _ => exact ⟨238, 271, rfl, rfl, arm_1 A⟩
  | 2, _ => exact ⟨271, 304, rfl, rfl, arm_2 A⟩
  | 3, _ => exact ⟨334, 367, rfl, rfl, arm_3 A⟩
  | 4, _ => exact ⟨367, 400, rfl, rfl, arm_4 A⟩
  | 5, _ => exact ⟨390, 423, rfl, rfl, arm_5 A⟩
  | 6, _ => exact ⟨423, 456, rfl, rfl, arm_6 A⟩
  | 7, _ => exact ⟨456, 489, rfl, rfl, arm_7 A⟩
  | 8, _ => exact ⟨509, 542, rfl, rfl, arm_8 A⟩
  | 9, _ => exact ⟨572, 605, rfl, rfl, arm_9 A⟩
  | 10, _ => exact ⟨605, 638, rfl, rfl, arm_10 A⟩
  | 11, _ => exact ⟨638, 671, rfl, rfl, arm_11 A⟩
  | 12, _ => exact ⟨701, 734, rfl, rfl, arm_12 A⟩
  | 13, _ => exact ⟨734, 767, rfl, rfl, arm_13 A⟩
  | 14, _ => exact ⟨777, 810, rfl, rfl, arm_14 A⟩
  | 15, _ => exact ⟨810, 843, rfl, rfl, arm_15 A⟩
  | 16, _ => exact ⟨833, 866, rfl, rfl, arm_16 A⟩
  | 17, _ => exact ⟨886, 919, rfl, rfl, arm_17 A⟩
  | 18, _ => exact ⟨929, 962, rfl, rfl, arm_18 A⟩
  | 19, _ => exact ⟨972, 1005, rfl, rfl, arm_19 A⟩
  | 20, _ => exact ⟨1015, 1048, rfl, rfl, arm_20 A⟩
  | 21, _ => exact ⟨1068, 1101, rfl, rfl, arm_21 A⟩
  | 22, _ => exact ⟨1091, 1124, rfl, rfl, arm_22 A⟩
  | 23, _ => exact ⟨1124, 1157, rfl, rfl, arm_23 A⟩
  | 24, _ => exact ⟨1157, 1190, rfl, rfl, arm_24 A⟩
  | 25, _ => exact ⟨1190, 1223, rfl, rfl, arm_25 A⟩
  | 26, _ => exact ⟨1223, 1256, rfl, rfl, arm_26 A⟩
  | 27, _ => exact ⟨1298, 1331, rfl, rfl, arm_27 A⟩
  | 28, _ => exact ⟨1331, 1364, rfl, rfl, arm_28 A⟩
  | 29, _ => exact ⟨1354, 1387, rfl, rfl, arm_29 A⟩
  | 30, _ => exact ⟨1377, 1410, rfl, rfl, arm_30 A⟩
  | 31, _ => exact ⟨1410, 1443, rfl, rfl, arm_31 A⟩
  | 32, _ => exact ⟨1433, 1466, rfl, rfl, arm_32 A⟩
  | 33, _ => exact ⟨1466, 1499, rfl, rfl, arm_33 A⟩
  | 34, _ => exact ⟨1489, 1522, rfl, rfl, arm_34 A⟩
  | 35, _ => exact ⟨1512, 1545, rfl, rfl, arm_35 A⟩
  | 36, _ => exact ⟨1535, 1568, rfl, rfl, arm_36 A⟩
  | 37, _ => exact ⟨1548, 1581, rfl, rfl, arm_37 A⟩
  | 38, _ => exact ⟨1591, 1624, rfl, rfl, arm_38 A⟩
  | 39, _ => exact ⟨1614, 1647, rfl, rfl, arm_39 A⟩
  | 40, _ => exact ⟨1637, 1670, rfl, rfl, arm_40 A⟩
  | 41, _ => exact ⟨1680, 1713, rfl, rfl, arm_41 A⟩
  | 42, _ => exact ⟨1693, 1726, rfl, rfl, arm_42 A⟩
  | 43, _ => exact ⟨1716, 1749, rfl, rfl, arm_43 A⟩
  | 44, _ => exact ⟨1759, 1792, rfl, rfl, arm_44 A⟩
  | 45, _ => exact ⟨1782, 1815, rfl, rfl, arm_45 A⟩
  | 46, _ => exact ⟨1815, 1848, rfl, rfl, arm_46 A⟩
  | 47, _ => exact ⟨1838, 1871, rfl, rfl, arm_47 A⟩
  | 48, _ => exact ⟨1881, 1914, rfl, rfl, arm_48 A⟩
  | 49, _ => exact ⟨1924, 1957, rfl, rfl, arm_49 A⟩
  | k + 50, h => exact absurd h (by omega)
theorem turn {sc : Nat × (Nat → Int)} {N : Nat} {i : Int} {I : IH} {L : LH} {R : RH} {K : KH} {Q : AQ} (A : Arm sc N i I L R K Q) : E sc 323 27 [some (aF 0), some (aR (some 0)), some (aR (some 77)), some (aI i)] [] I L R K Q := by
  have hi := A.2.2.2.1
  exact e_aload_nF mb_323 dL_law_27 rfl (e_iload_n mb_323 dL_law_28 rfl (e_ialoadF mb_323 dL_law_29 (by omega) (e_bipush mb_323 dL_law_30 cv_bipush_63 (e_iand mb_323 dL_law_32 (turn_sw A)))))
/-- what the law's run must end with -/
def QL : AQ := fun rv _ _ _ K => rv = some (aI 1) ∧ K.2.2.1 ≤ 600000 ∧ K.2.2.2 ≤ 7302250
theorem law_loop {sc : Nat × (Nat → Int)} (hsc : sc.1 ≤ 448 ∧ ∀ j, inR (sc.2 j)) : ∀ (n N : Nat) (i : Int) (I : IH) (L : LH) (R : RH) (K : KH), N + n = 65 → i = 7 * (N : Int) → 7 * (N : Int) ≤ 448 → Inv N I L R K → AMwf I L R K → E sc 323 18 [some (aF 0), some (aR (some 0)), some (aR (some 77)), some (aI i)] [] I L R K QL := by
  intro n
  induction n with
  | zero => intro N i I L R K h1 h2 h3; omega
  | succ n ih =>
    intro N i I L R K h1 h2 h3 hI hw
    have s1 := hsc.1
    refine e_iload_n mb_323 dL_law_18 rfl (e_aload_nF mb_323 dL_law_19 rfl (e_lenF mb_323 dL_law_20 (e_bipush mb_323 dL_law_21 cv_bipush_7 (e_isub mb_323 dL_law_23 (by omega) (e_icmp (t := 2026) mb_323 dL_law_24 rfl (fun q => ?_) (fun q => ?_))))))
    · refine e_iconst mb_323 dL_law_2026 cv_iconst_1 (e_ireturn mb_323 dL_law_2027 (ri_323 (.inr rfl)) ⟨rfl, ?_, ?_⟩)
      · have := hI.2.2.2.2.2.2.2.2.2.2.2.2.2.1
        omega
      · have := hI.2.2.2.2.2.2.2.2.2.2.2.2.2.2
        omega
    · have q := cb_gt.2.mp q
      refine turn (N := N) ⟨hI, hw, hsc, by omega, fun I1 L1 R1 K1 hI1 hw1 => ?_⟩
      refine e_iinc mb_323 dL_law_2020 rfl (by omega) rfl (e_goto (t := 18) mb_323 dL_law_2023 rfl ?_)
      exact ih (N + 1) (i + 7) I1 L1 R1 K1 (by omega) (by omega) (by omega) hI1 hw1
theorem law_E {sc : Nat × (Nat → Int)} (hsc : sc.1 ≤ 448 ∧ ∀ j, inR (sc.2 j)) : E sc 323 0 [some (aF 0), none, none, none] [] I0 L0 R0 K0 QL := by
  obtain ⟨I1, L1, R1, K1, I2, L2, R2, K2, r1, k1, r2, p⟩ := init_run (sc := sc)
  have hs : sc.1 ≤ 65536 ∧ ∀ j, inR (sc.2 j) := ⟨by have := hsc.1; omega, hsc.2⟩
  have n11 : nFld 11 ≤ 65536 := by decide +kernel
  have n12 : nFld 12 ≤ 65536 := by decide +kernel
  have w1 := (run_wf hs _ _ _ _ _ _ _ _ _ _ _ _ _ _ r1 (wf0.alloc n11) (fun _ q => by cases q) (okL_r (by show 0 < 1; omega) okL_0)).1
  have w2 := (run_wf hs _ _ _ _ _ _ _ _ _ _ _ _ _ _ r2 (w1.alloc n12) (fun _ q => by cases q) (okL_r (by show 77 < K1.2.2.1 + 1; omega) okL_0)).1
  refine e_new mb_323 dL_law_0 (by rw [mf_323.1]; rfl) (e_dup mb_323 dL_law_3 rfl (e_callP (a := 0) mb_323 dL_law_4 mf_323 mf_0 cs_73737 rfl rfl rfl rfl rfl rfl ⟨1000, none, I1, L1, R1, K1, r1, ?_⟩))
  show E sc 323 7 [some (aF 0), none, none, none] [aR (some 0)] I1 L1 R1 K1 QL
  refine e_astore_n mb_323 dL_law_7 rfl (e_new mb_323 dL_law_8 (by rw [mf_323.1]; rfl) ?_)
  rw [k1]
  have ka : (amAlloc K1 12 (nFld 12)).1 77 = 12 := by rw [← k1]; exact al_s.1
  refine e_dup mb_323 dL_law_11 rfl (e_callP (a := 77) mb_323 dL_law_12 mf_323 mf_65 cs_73740 rfl rfl rfl rfl ka rfl ⟨1000, none, I2, L2, R2, K2, r2, ?_⟩)
  show E sc 323 15 [some (aF 0), some (aR (some 0)), none, none] [aR (some 77)] I2 L2 R2 K2 QL
  refine e_astore_n mb_323 dL_law_15 rfl (e_iconst mb_323 dL_law_16 cv_iconst_0 (e_istore_n mb_323 dL_law_17 rfl ?_))
  exact law_loop hsc 65 0 0 I2 L2 R2 K2 (by omega) (by omega) (by omega) (inv_0 p) w2
theorem law_run {L : Nat} {xs : Nat → Int32} (hL : L ≤ 448) : ∃ (f : Nat) (I1 : IH) (L1 : LH) (R1 : RH) (K1 : KH), amRun (L, fun j => (xs j).toInt) f mLaw 0 (padL 4 (mkL [aF 0])) [] I0 L0 R0 K0 = some (some (aI 1), I1, L1, R1, K1) ∧ K1.2.2.1 ≤ 600000 ∧ K1.2.2.2 ≤ 7302250 := by
  obtain ⟨f, rv, I1, L1, R1, K1, h, q1, q2, q3⟩ := law_E (sc := (L, fun j => (xs j).toInt)) ⟨hL, fun j => inR_toInt _⟩
  subst q1
  exact ⟨f, I1, L1, R1, K1, h, q2, q3⟩
