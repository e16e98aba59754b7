/-! keeps: the reference -/
def s58 (I : IH) (x : Int) : IH := setF I 77 58 x
def tmN (I : IH) (b s a k : Int) : Int := tmV I b (if b = 5 then 4 else 1) (if b = 5 then 4 else 3) s a k (-1) (I 77 7).toNat
theorem v_93k {sc : Nat × (Nat → Int)} {I : IH} {L : LH} {R : RH} {K : KH} {Q : AQ} {a0 a1 a2 a3 : Int} (hL : Lay R K) (hp : ModOK I (-1) ∧ (0 ≤ a1 ∧ a1 < 1536) ∧ I 77 57 = -1) (h : Q (some (aI (tmN I a0 a1 a2 a3 % 256 - 3))) (s58 I (tmN I a0 a1 a2 a3 / 256 - 1)) L R K) : E sc 93 0 [some (aR (some 77)), some (aI a0), some (aI a1), some (aI a2), some (aI a3)] [] I L R K Q := by
  obtain ⟨p0, p1, p2⟩ := hp
  refine v_93 hL (by rw [p2]; exact p0) p1 ?_
  rw [p2]
  exact h
theorem tmN_sg {I J : IH} (hs : Sg I J) {b s a k : Int} : tmN J b s a k = tmN I b s a k := by
  unfold tmN
  rw [tmV_fr (fun a j q1 q2 => hs _ _ (by unfold S0; omega)), hs 77 7 (by unfold S0; omega)]
def T0 (I : IH) (s : Int) : Int := tmV I 5 4 4 s (I 77 0) (I 77 0) (-1) (I 77 7).toNat
theorem tmN_5 {I : IH} {s : Int} : tmN I 5 s (I 77 0) (I 77 0) = T0 I s := by
  unfold tmN
  rw [if_pos rfl, if_pos rfl]
  rfl
theorem tmN_c {I : IH} {c s : Int} (hc : c < 5) : tmN I c s (I 77 0) (I 77 0) % 256 - 3 = ansM I c 1 3 s (I 77 0) (I 77 0) := by
  unfold tmN
  rw [if_neg (by omega), if_neg (by omega)]
  rfl
def FindP (I J : IH) (m : Nat) : Prop := Sg I J ∧ (∀ c : Nat, c < 5 → J 127 c = folI I (c : Int)) ∧ (∀ c s : Nat, c < 5 → s < m → J 124 (1536 * c + s) = cusI I (c : Int) (s : Int)) ∧ ∀ s : Nat, s < m → J 125 s = T0 I (s : Int) % 256 - 3 ∧ J 126 s = T0 I (s : Int) / 256 - 1
def FindS (I J : IH) : Prop := FindP I J 1536
theorem w_138_0 {sc : Nat × (Nat → Int)} {I : IH} {L : LH} {R : RH} {K : KH} {Q : AQ} (hL : Lay R K) (h : E sc 138 2 [some (aR (some 77)), some (aI 0), none] [] I L R K Q) : E sc 138 0 [some (aR (some 77)), none, none] [] I L R K Q :=
  e_iconst mb_138 dX12_findAnswers_0 cv_iconst_0 (e_istore_n (l1 := [some (aR (some 77)), some (aI 0), none]) mb_138 dX12_findAnswers_1 rfl h)
theorem w_138_2 {sc : Nat × (Nat → Int)} {I : IH} {L : LH} {R : RH} {K : KH} {Q : AQ} {x1 : Int} {o2 : Option AV} (no2 : nL o2) (hL : Lay R K) (h : ((5 ≤ x1 → E sc 138 22 [some (aR (some 77)), some (aI 0), o2] [] I L R K Q) ∧ (x1 < 5 → (((0 : Int) ≤ x1 ∧ x1 < (5 : Int))) ∧ ((-2147483648 : Int) ≤ x1 + 1 ∧ x1 + 1 < (2147483648 : Int)) ∧ E sc 138 2 [some (aR (some 77)), some (aI (x1 + 1)), o2] [] (setF I 127 x1.toNat 0) L R K Q))) : E sc 138 2 [some (aR (some 77)), some (aI x1), o2] [] I L R K Q :=
  e_iload_n mb_138 dX12_findAnswers_2 rfl (e_iconst mb_138 dX12_findAnswers_3 cv_iconst_5 (e_icmp mb_138 dX12_findAnswers_4 rfl (fun q1 => e_iconst mb_138 dX12_findAnswers_20 cv_iconst_0 (e_istore_n (l1 := [some (aR (some 77)), some (aI 0), o2]) mb_138 dX12_findAnswers_21 rfl ((h.1 (cb_ge.1.mp q1))))) (fun q1 => e_aload_n mb_138 dX12_findAnswers_7 rfl (e_getr mb_138 dX12_findAnswers_8 mf_138.1 fs_49317 fk_12_64 (lk_77 hL) (lr_77_64 hL) (e_iload_n mb_138 dX12_findAnswers_11 rfl (e_iconst mb_138 dX12_findAnswers_12 cv_iconst_0 (e_iastore mb_138 dX12_findAnswers_13 (lk_127 hL) (ll_127 hL) (h.2 (cb_ge.2.mp q1)).1 (e_iinc (l1 := [some (aR (some 77)), some (aI (x1 + 1)), o2]) mb_138 dX12_findAnswers_14 rfl (h.2 (cb_ge.2.mp q1)).2.1 rfl (e_goto mb_138 dX12_findAnswers_17 rfl ((h.2 (cb_ge.2.mp q1)).2.2))))))))))
theorem w_138_22 {sc : Nat × (Nat → Int)} {I : IH} {L : LH} {R : RH} {K : KH} {Q : AQ} {x1 : Int} {o2 : Option AV} (no2 : nL o2) (hL : Lay R K) (h : (((I 77 18) ≤ x1 → E sc 138 58 [some (aR (some 77)), some (aI 0), o2] [] I L R K Q) ∧ (x1 < (I 77 18) → (((0 : Int) ≤ x1 ∧ x1 < (8 : Int))) ∧ (((0 : Int) ≤ I 93 x1.toNat ∧ I 93 x1.toNat < (5 : Int))) ∧ (((0 : Int) ≤ x1 ∧ x1 < (8 : Int))) ∧ ((-2147483648 : Int) ≤ (I 127 ((I 93 x1.toNat).toNat)) + (I 94 x1.toNat) ∧ (I 127 ((I 93 x1.toNat).toNat)) + (I 94 x1.toNat) < (2147483648 : Int)) ∧ (((0 : Int) ≤ I 93 x1.toNat ∧ I 93 x1.toNat < (5 : Int))) ∧ ((-2147483648 : Int) ≤ x1 + 1 ∧ x1 + 1 < (2147483648 : Int)) ∧ E sc 138 22 [some (aR (some 77)), some (aI (x1 + 1)), o2] [] (setF I 127 ((I 93 x1.toNat).toNat) ((I 127 ((I 93 x1.toNat).toNat)) + (I 94 x1.toNat))) L R K Q))) : E sc 138 22 [some (aR (some 77)), some (aI x1), o2] [] I L R K Q :=
  e_iload_n mb_138 dX12_findAnswers_22 rfl (e_aload_n mb_138 dX12_findAnswers_23 rfl (e_getv mb_138 dX12_findAnswers_24 mf_138.1 fs_49336 (Or.inl fk_12_18) (lk_77 hL) rfl (e_icmp mb_138 dX12_findAnswers_27 rfl (fun q1 => e_iconst mb_138 dX12_findAnswers_56 cv_iconst_0 (e_istore_n (l1 := [some (aR (some 77)), some (aI 0), o2]) mb_138 dX12_findAnswers_57 rfl ((h.1 (cb_ge.1.mp q1))))) (fun q1 => e_aload_n mb_138 dX12_findAnswers_30 rfl (e_getr mb_138 dX12_findAnswers_31 mf_138.1 fs_49317 fk_12_64 (lk_77 hL) (lr_77_64 hL) (e_aload_n mb_138 dX12_findAnswers_34 rfl (e_getr mb_138 dX12_findAnswers_35 mf_138.1 fs_49208 fk_12_19 (lk_77 hL) (lr_77_19 hL) (e_iload_n mb_138 dX12_findAnswers_38 rfl (e_ial mb_138 dX12_findAnswers_39 (lk_93 hL) (ll_93 hL) (h.2 (cb_ge.2.mp q1)).1 rfl (e_dup2 mb_138 dX12_findAnswers_40 ⟨rfl, rfl⟩ (e_ial mb_138 dX12_findAnswers_41 (lk_127 hL) (ll_127 hL) (h.2 (cb_ge.2.mp q1)).2.1 rfl (e_aload_n mb_138 dX12_findAnswers_42 rfl (e_getr mb_138 dX12_findAnswers_43 mf_138.1 fs_49211 fk_12_20 (lk_77 hL) (lr_77_20 hL) (e_iload_n mb_138 dX12_findAnswers_46 rfl (e_ial mb_138 dX12_findAnswers_47 (lk_94 hL) (ll_94 hL) (h.2 (cb_ge.2.mp q1)).2.2.1 rfl (e_iadd mb_138 dX12_findAnswers_48 (h.2 (cb_ge.2.mp q1)).2.2.2.1 (e_iastore mb_138 dX12_findAnswers_49 (lk_127 hL) (ll_127 hL) (h.2 (cb_ge.2.mp q1)).2.2.2.2.1 (e_iinc (l1 := [some (aR (some 77)), some (aI (x1 + 1)), o2]) mb_138 dX12_findAnswers_50 rfl (h.2 (cb_ge.2.mp q1)).2.2.2.2.2.1 rfl (e_goto mb_138 dX12_findAnswers_53 rfl ((h.2 (cb_ge.2.mp q1)).2.2.2.2.2.2))))))))))))))))))))
theorem w_138_58 {sc : Nat × (Nat → Int)} {I : IH} {L : LH} {R : RH} {K : KH} {Q : AQ} {x1 : Int} {o2 : Option AV} (no2 : nL o2) (hL : Lay R K) (h : ((1536 ≤ x1 → Q none I L R K) ∧ (x1 < 1536 → E sc 138 67 [some (aR (some 77)), some (aI x1), some (aI 0)] [] I L R K Q))) : E sc 138 58 [some (aR (some 77)), some (aI x1), o2] [] I L R K Q :=
  e_iload_n mb_138 dX12_findAnswers_58 rfl (e_sipush mb_138 dX12_findAnswers_59 cv_sipush_1536 (e_icmp mb_138 dX12_findAnswers_62 rfl (fun q1 => e_return mb_138 dX12_findAnswers_154 rv_138 (h.1 (cb_ge.1.mp q1))) (fun q1 => e_iconst mb_138 dX12_findAnswers_65 cv_iconst_0 (e_istore_n (l1 := [some (aR (some 77)), some (aI x1), some (aI 0)]) mb_138 dX12_findAnswers_66 rfl ((h.2 (cb_ge.2.mp q1)))))))
theorem w_138_67 {sc : Nat × (Nat → Int)} {I : IH} {L : LH} {R : RH} {K : KH} {Q : AQ} {x1 x2 : Int} (hL : Lay R K) (h : ((5 ≤ x2 → ((ModOK I (-1) ∧ (0 ≤ x1 ∧ x1 < 1536) ∧ I 77 57 = -1)) ∧ (((0 : Int) ≤ x1 ∧ x1 < (1536 : Int))) ∧ (((0 : Int) ≤ x1 ∧ x1 < (1536 : Int))) ∧ ((-2147483648 : Int) ≤ x1 + 1 ∧ x1 + 1 < (2147483648 : Int)) ∧ E sc 138 58 [some (aR (some 77)), some (aI (x1 + 1)), some (aI x2)] [] (setF (setF (s58 I (tmN I (5 : Int) x1 (I 77 0) (I 77 0) / 256 - 1)) 125 x1.toNat (tmN I (5 : Int) x1 (I 77 0) (I 77 0) % 256 - 3)) 126 x1.toNat ((s58 I (tmN I (5 : Int) x1 (I 77 0) (I 77 0) / 256 - 1)) 77 58)) L R K Q) ∧ (x2 < 5 → ((-2147483648 : Int) ≤ 1536 * x2 ∧ 1536 * x2 < (2147483648 : Int)) ∧ ((-2147483648 : Int) ≤ (1536 * x2) + x1 ∧ (1536 * x2) + x1 < (2147483648 : Int)) ∧ (((0 : Int) ≤ x2 ∧ x2 < (5 : Int))) ∧ (((I 127 x2.toNat) ≤ 0 → (((0 : Int) ≤ ((1536 * x2) + x1) ∧ ((1536 * x2) + x1) < (7680 : Int))) ∧ ((-2147483648 : Int) ≤ x2 + 1 ∧ x2 + 1 < (2147483648 : Int)) ∧ E sc 138 67 [some (aR (some 77)), some (aI x1), some (aI (x2 + 1))] [] (setF I 124 (((1536 * x2) + x1).toNat) (-3)) L R K Q) ∧ (0 < (I 127 x2.toNat) → ((ModOK I (-1) ∧ (0 ≤ x1 ∧ x1 < 1536) ∧ I 77 57 = -1)) ∧ (((0 : Int) ≤ ((1536 * x2) + x1) ∧ ((1536 * x2) + x1) < (7680 : Int))) ∧ ((-2147483648 : Int) ≤ x2 + 1 ∧ x2 + 1 < (2147483648 : Int)) ∧ E sc 138 67 [some (aR (some 77)), some (aI x1), some (aI (x2 + 1))] [] (setF (s58 I (tmN I x2 x1 (I 77 0) (I 77 0) / 256 - 1)) 124 (((1536 * x2) + x1).toNat) (tmN I x2 x1 (I 77 0) (I 77 0) % 256 - 3)) L R K Q))))) : E sc 138 67 [some (aR (some 77)), some (aI x1), some (aI x2)] [] I L R K Q :=
  e_iload_n mb_138 dX12_findAnswers_67 rfl (e_iconst mb_138 dX12_findAnswers_68 cv_iconst_5 (e_icmp mb_138 dX12_findAnswers_69 rfl (fun q1 => e_aload_n mb_138 dX12_findAnswers_118 rfl (e_getr mb_138 dX12_findAnswers_119 mf_138.1 fs_49311 fk_12_62 (lk_77 hL) (lr_77_62 hL) (e_iload_n mb_138 dX12_findAnswers_122 rfl (e_aload_n mb_138 dX12_findAnswers_123 rfl (e_iconst mb_138 dX12_findAnswers_124 cv_iconst_5 (e_iload_n mb_138 dX12_findAnswers_125 rfl (e_aload_n mb_138 dX12_findAnswers_126 rfl (e_getv mb_138 dX12_findAnswers_127 mf_138.1 fs_49346 (Or.inl fk_12_0) (lk_77 hL) rfl (e_aload_n mb_138 dX12_findAnswers_130 rfl (e_getv mb_138 dX12_findAnswers_131 mf_138.1 fs_49346 (Or.inl fk_12_0) (lk_77 hL) rfl (e_callV mb_138 dX12_findAnswers_134 mf_138 mf_93 cs_49418 rfl rfl rfl rfl (lk_77 hL) rfl (v_93k hL (h.1 (cb_ge.1.mp q1)).1 (show E _ _ _ _ [aI (tmN I (5 : Int) x1 (I 77 0) (I 77 0) % 256 - 3), aI x1, aR (some 125)] _ _ _ _ _ from e_iastore mb_138 dX12_findAnswers_137 (lk_125 hL) (ll_125 hL) (h.1 (cb_ge.1.mp q1)).2.1 (e_aload_n mb_138 dX12_findAnswers_138 rfl (e_getr mb_138 dX12_findAnswers_139 mf_138.1 fs_49314 fk_12_63 (lk_77 hL) (lr_77_63 hL) (e_iload_n mb_138 dX12_findAnswers_142 rfl (e_aload_n mb_138 dX12_findAnswers_143 rfl (e_getv mb_138 dX12_findAnswers_144 mf_138.1 fs_49404 (Or.inl fk_12_58) (lk_77 hL) rfl (e_iastore mb_138 dX12_findAnswers_147 (lk_126 hL) (ll_126 hL) (h.1 (cb_ge.1.mp q1)).2.2.1 (e_iinc (l1 := [some (aR (some 77)), some (aI (x1 + 1)), some (aI x2)]) mb_138 dX12_findAnswers_148 rfl (h.1 (cb_ge.1.mp q1)).2.2.2.1 rfl (e_goto mb_138 dX12_findAnswers_151 rfl ((h.1 (cb_ge.1.mp q1)).2.2.2.2)))))))))))))))))))))) (fun q1 => e_aload_n mb_138 dX12_findAnswers_72 rfl (e_getr mb_138 dX12_findAnswers_73 mf_138.1 fs_49308 fk_12_61 (lk_77 hL) (lr_77_61 hL) (e_sipush mb_138 dX12_findAnswers_76 cv_sipush_1536 (e_iload_n mb_138 dX12_findAnswers_79 rfl (e_imul mb_138 dX12_findAnswers_80 (h.2 (cb_ge.2.mp q1)).1 (e_iload_n mb_138 dX12_findAnswers_81 rfl (e_iadd mb_138 dX12_findAnswers_82 (h.2 (cb_ge.2.mp q1)).2.1 (e_aload_n mb_138 dX12_findAnswers_83 rfl (e_getr mb_138 dX12_findAnswers_84 mf_138.1 fs_49317 fk_12_64 (lk_77 hL) (lr_77_64 hL) (e_iload_n mb_138 dX12_findAnswers_87 rfl (e_ial mb_138 dX12_findAnswers_88 (lk_127 hL) (ll_127 hL) (h.2 (cb_ge.2.mp q1)).2.2.1 rfl (e_if mb_138 dX12_findAnswers_89 rfl (fun q2 => e_bipush mb_138 dX12_findAnswers_109 cv_bipush_m3 (e_iastore mb_138 dX12_findAnswers_111 (lk_124 hL) (ll_124 hL) ((h.2 (cb_ge.2.mp q1)).2.2.2.1 (cb_le.1.mp q2)).1 (e_iinc (l1 := [some (aR (some 77)), some (aI x1), some (aI (x2 + 1))]) mb_138 dX12_findAnswers_112 rfl ((h.2 (cb_ge.2.mp q1)).2.2.2.1 (cb_le.1.mp q2)).2.1 rfl (e_goto mb_138 dX12_findAnswers_115 rfl (((h.2 (cb_ge.2.mp q1)).2.2.2.1 (cb_le.1.mp q2)).2.2))))) (fun q2 => e_aload_n mb_138 dX12_findAnswers_92 rfl (e_iload_n mb_138 dX12_findAnswers_93 rfl (e_iload_n mb_138 dX12_findAnswers_94 rfl (e_aload_n mb_138 dX12_findAnswers_95 rfl (e_getv mb_138 dX12_findAnswers_96 mf_138.1 fs_49346 (Or.inl fk_12_0) (lk_77 hL) rfl (e_aload_n mb_138 dX12_findAnswers_99 rfl (e_getv mb_138 dX12_findAnswers_100 mf_138.1 fs_49346 (Or.inl fk_12_0) (lk_77 hL) rfl (e_callV mb_138 dX12_findAnswers_103 mf_138 mf_93 cs_49418 rfl rfl rfl rfl (lk_77 hL) rfl (v_93k hL ((h.2 (cb_ge.2.mp q1)).2.2.2.2 (cb_le.2.mp q2)).1 (show E _ _ _ _ [aI (tmN I x2 x1 (I 77 0) (I 77 0) % 256 - 3), aI ((1536 * x2) + x1), aR (some 124)] _ _ _ _ _ from e_goto mb_138 dX12_findAnswers_106 rfl (e_iastore mb_138 dX12_findAnswers_111 (lk_124 hL) (ll_124 hL) ((h.2 (cb_ge.2.mp q1)).2.2.2.2 (cb_le.2.mp q2)).2.1 (e_iinc (l1 := [some (aR (some 77)), some (aI x1), some (aI (x2 + 1))]) mb_138 dX12_findAnswers_112 rfl ((h.2 (cb_ge.2.mp q1)).2.2.2.2 (cb_le.2.mp q2)).2.2.1 rfl (e_goto mb_138 dX12_findAnswers_115 rfl (((h.2 (cb_ge.2.mp q1)).2.2.2.2 (cb_le.2.mp q2)).2.2.2))))))))))))))))))))))))))))
theorem v_138 {N : Nat} {sc : Nat × (Nat → Int)} {I J0 : IH} {L : LH} {R : RH} {K : KH} {Q : AQ} (hL : Lay R K) (hp : Inv N I L R K ∧ Sg I J0) (h : ∀ J, FindS I J → (∀ j, J 128 j = J0 128 j) → Q none J L R K) : E sc 138 0 [some (aR (some 77)), none, none] [] J0 L R K Q := by
  obtain ⟨hI, hs0⟩ := hp
  have hD := iD hI
  obtain ⟨d1, d2, d3, d4, d5⟩ := hD
  have hS := iS hI
  unfold InvS at hS
  obtain ⟨n, hn⟩ : ∃ n : Nat, I 77 18 = (n : Int) := ⟨(I 77 18).toNat, by omega⟩
  have mo : ∀ J, Sg I J → ModOK J (-1) := fun J hs => modOK_sg (modOK_of hI) hs
  have r57 : ∀ J, Sg I J → J 77 57 = -1 := fun J hs => by rw [hs 77 57 (by unfold S0; omega)]; omega
  have r0 : ∀ J, Sg I J → J 77 0 = I 77 0 := fun J hs => hs 77 0 (by unfold S0; omega)
  have s1 : ∀ {J : IH} {a i : Nat} {v : Int}, Sg I J → (122 ≤ a ∧ a ≤ 130) → Sg I (setF J a i v) := fun hs ha => sg_s hs (by unfold S0; omega)
  have s2 : ∀ {J : IH} {v : Int}, Sg I J → Sg I (s58 J v) := fun hs => sg_s hs (by unfold S0; omega)
  -- the sorts
  have lC : ∀ (J : IH) (o2 : Option AV), nL o2 → FindP I J 0 → (∀ j, J 128 j = J0 128 j) → E sc 138 58 [some (aR (some 77)), some (aI 0), o2] [] J L R K Q := by
    intro J o2 n2 hF h128
    have key : (fun m : Nat => ∀ (x : Int) (J : IH) (o2 : Option AV), nL o2 → x = (m : Int) → FindP I J m → (∀ j, J 128 j = J0 128 j) → E sc 138 58 [some (aR (some 77)), some (aI x), o2] [] J L R K Q) 0 := by
      refine loop_up (C := fun m : Nat => ∀ (x : Int) (J : IH) (o2 : Option AV), nL o2 → x = (m : Int) → FindP I J m → (∀ j, J 128 j = J0 128 j) → E sc 138 58 [some (aR (some 77)), some (aI x), o2] [] J L R K Q) 1536 ?_ ?_
      · intro m hm hc x J o2 n2 hx hF h128
        subst hx
        have inner : (fun c : Nat => ∀ (x : Int) (J : IH), x = (c : Int) → FindP I J m → (∀ c2 : Nat, c2 < c → J 124 (1536 * c2 + m) = cusI I (c2 : Int) (m : Int)) → (∀ j, J 128 j = J0 128 j) → E sc 138 67 [some (aR (some 77)), some (aI (m : Int)), some (aI x)] [] J L R K Q) 0 := by
          refine loop_up (C := fun c : Nat => ∀ (x : Int) (J : IH), x = (c : Int) → FindP I J m → (∀ c2 : Nat, c2 < c → J 124 (1536 * c2 + m) = cusI I (c2 : Int) (m : Int)) → (∀ j, J 128 j = J0 128 j) → E sc 138 67 [some (aR (some 77)), some (aI (m : Int)), some (aI x)] [] J L R K Q) 5 ?_ ?_
          · intro c hcc hci x J hx hF hrow h128
            subst hx
            obtain ⟨f1, f2, f3, f4⟩ := hF
            have e127 := f2 c hcc
            have ei : ((1536 * (c : Int)) + (m : Int)).toNat = 1536 * c + m := by omega
            have et : tmN J (c : Int) (m : Int) (J 77 0) (J 77 0) % 256 - 3 = ansM I (c : Int) 1 3 (m : Int) (I 77 0) (I 77 0) := by
              rw [tmN_sg f1, r0 J f1]
              exact tmN_c (by omega)
            have up : ∀ (J2 : IH) (v : Int), Sg I J2 → (∀ a j, 122 ≤ a → a ≤ 130 → J2 a j = J a j) → v = cusI I (c : Int) (m : Int) → E sc 138 67 [some (aR (some 77)), some (aI (m : Int)), some (aI ((c : Int) + 1))] [] (setF J2 124 (1536 * c + m) v) L R K Q := fun J2 v hs hj hv => by
              refine hci _ _ (by omega) ⟨s1 hs (by omega), fun c2 hc2 => ?_, fun c2 s hc2 hs2 => ?_, fun s hs2 => ?_⟩ (fun c2 hc2 => ?_) (fun j => ?_)
              · rw [setF_c (by omega), hj 127 c2 (by omega) (by omega)]; exact f2 c2 hc2
              · rw [setF_i, if_neg (by omega), hj 124 _ (by omega) (by omega)]; exact f3 c2 s hc2 hs2
              · rw [setF_c (by omega), setF_c (by omega), hj 125 s (by omega) (by omega), hj 126 s (by omega) (by omega)]; exact f4 s hs2
              · rw [setF_i]
                by_cases q : c2 = c
                · rw [if_pos (by rw [q]), q]; exact hv
                · rw [if_neg (by omega), hj 124 _ (by omega) (by omega)]; exact hrow c2 (by omega)
              · rw [setF_c (by omega), hj 128 j (by omega) (by omega)]; exact h128 j
            refine w_138_67 hL ?_
            simp only [Int.toNat_natCast]
            rw [ei, e127, et]
            refine ⟨fun q1 => by omega, fun q1 => ⟨by omega, by omega, by omega, fun q2 => ⟨by omega, by omega, ?_⟩, fun q2 => ⟨⟨mo J f1, by omega, r57 J f1⟩, by omega, by omega, ?_⟩⟩⟩
            · exact up J _ f1 (fun _ _ _ _ => rfl) (by unfold cusI; rw [if_neg (by omega)])
            · exact up _ _ (s2 f1) (fun a j h1 h2 => setF_c (by omega)) (by unfold cusI; rw [if_pos q2])
          · intro x J hx hF hrow h128
            subst hx
            obtain ⟨f1, f2, f3, f4⟩ := hF
            have et : tmN J 5 (m : Int) (J 77 0) (J 77 0) = T0 I (m : Int) := by
              rw [tmN_sg f1, r0 J f1]
              exact tmN_5
            have e58 : (s58 J (T0 I (m : Int) / 256 - 1)) 77 58 = T0 I (m : Int) / 256 - 1 := setF_s
            refine w_138_67 hL ?_
            simp only [Int.toNat_natCast]
            rw [et, e58]
            refine ⟨fun q1 => ⟨⟨mo J f1, by omega, r57 J f1⟩, by omega, by omega, by omega, hc _ _ _ nl_i (by omega) ⟨s1 (s1 (s2 f1) (by omega)) (by omega), fun c2 hc2 => ?_, fun c2 s hc2 hs2 => ?_, fun s hs2 => ?_⟩ (fun j => ?_)⟩, fun q1 => by omega⟩
            · rw [setF_c (by omega), setF_c (by omega)]
              show setF J 77 58 _ 127 c2 = _
              rw [setF_c (by omega)]; exact f2 c2 hc2
            · rw [setF_c (by omega), setF_c (by omega)]
              show setF J 77 58 _ 124 _ = _
              rw [setF_c (by omega)]
              by_cases q : s = m
              · rw [q]; exact hrow c2 hc2
              · exact f3 c2 s hc2 (by omega)
            · rw [setF_c (show 125 ≠ 126 by omega), setF_i, setF_i, setF_c (show 126 ≠ 125 by omega)]
              by_cases q : s = m
              · rw [if_pos q, if_pos q, q]; exact ⟨rfl, rfl⟩
              · rw [if_neg q, if_neg q]
                show setF J 77 58 _ 125 s = _ ∧ setF J 77 58 _ 126 s = _
                rw [setF_c (by omega), setF_c (by omega)]
                exact f4 s (by omega)
            · rw [setF_c (by omega), setF_c (by omega)]
              show setF J 77 58 _ 128 j = _
              rw [setF_c (by omega)]; exact h128 j
        exact w_138_58 n2 hL ⟨fun q1 => by omega, fun q1 => inner _ _ rfl hF (fun c2 hc2 => by omega) h128⟩
      · intro x J o2 n2 hx hF h128
        subst hx
        exact w_138_58 n2 hL ⟨fun q1 => h J hF h128, fun q1 => by omega⟩
    exact key _ _ _ n2 rfl hF h128
  -- the districts
  have lB : ∀ (J : IH) (o2 : Option AV), nL o2 → Sg I J → (∀ c : Nat, c < 5 → J 127 c = 0) → (∀ j, J 128 j = J0 128 j) → E sc 138 22 [some (aR (some 77)), some (aI 0), o2] [] J L R K Q := by
    intro J o2 n2 hs hz h128
    have key : (fun m : Nat => ∀ (x : Int) (J : IH) (o2 : Option AV), nL o2 → x = (m : Int) → Sg I J → (∀ c : Nat, c < 5 → J 127 c = sumTo (fun j => (if I 93 j = (c : Int) then I 94 j else 0 : Int)) m ∧ 0 ≤ J 127 c ∧ J 127 c ≤ 99 * m) → (∀ j, J 128 j = J0 128 j) → E sc 138 22 [some (aR (some 77)), some (aI x), o2] [] J L R K Q) 0 := by
      refine loop_up (C := fun m : Nat => ∀ (x : Int) (J : IH) (o2 : Option AV), nL o2 → x = (m : Int) → Sg I J → (∀ c : Nat, c < 5 → J 127 c = sumTo (fun j => (if I 93 j = (c : Int) then I 94 j else 0 : Int)) m ∧ 0 ≤ J 127 c ∧ J 127 c ≤ 99 * m) → (∀ j, J 128 j = J0 128 j) → E sc 138 22 [some (aR (some 77)), some (aI x), o2] [] J L R K Q) n ?_ ?_
      · intro m hm hc x J o2 n2 hx hs hz h128
        subst hx
        have e93 : J 93 m = I 93 m := hs 93 m (by unfold S0; omega)
        have e94 : J 94 m = I 94 m := hs 94 m (by unfold S0; omega)
        have e18 : J 77 18 = I 77 18 := hs 77 18 (by unfold S0; omega)
        have dm := d4 m (by omega)
        have hz2 := hz (I 93 m).toNat (by omega)
        refine w_138_22 n2 hL ?_
        simp only [Int.toNat_natCast]
        rw [e93, e94, e18]
        refine ⟨fun q1 => by omega, fun q1 => ⟨by omega, by omega, by omega, by omega, by omega, by omega, hc _ _ _ n2 (by omega) (s1 hs (by omega)) (fun c hc5 => ?_) (fun j => by rw [setF_c (by omega)]; exact h128 j)⟩⟩
        have es : sumTo (fun j => (if I 93 j = (c : Int) then I 94 j else 0 : Int)) (m + 1) = sumTo (fun j => (if I 93 j = (c : Int) then I 94 j else 0 : Int)) m + (if I 93 m = (c : Int) then I 94 m else 0 : Int) := rfl
        have hzc := hz c hc5
        rw [setF_i, es]
        by_cases q : c = (I 93 m).toNat
        · rw [if_pos q, if_pos (by omega), ← q]; omega
        · rw [if_neg q, if_neg (by omega)]; omega
      · intro x J o2 n2 hx hs hz h128
        subst hx
        have e18 : J 77 18 = I 77 18 := hs 77 18 (by unfold S0; omega)
        refine w_138_22 n2 hL ⟨fun q1 => lC J _ n2 ⟨hs, fun c hc => ?_, fun c s _ hs2 => by omega, fun s hs2 => by omega⟩ h128, fun q1 => by omega⟩
        have := (hz c hc).1
        unfold folI
        rw [hn, Int.toNat_natCast]
        exact this
    exact key _ _ _ n2 rfl hs (fun c hc => by rw [hz c hc]; exact ⟨rfl, by omega, by omega⟩) h128
  have lA : (fun m : Nat => ∀ (x : Int) (J : IH) (o2 : Option AV), nL o2 → x = (m : Int) → Sg I J → (∀ c : Nat, c < m → J 127 c = 0) → (∀ j, J 128 j = J0 128 j) → E sc 138 2 [some (aR (some 77)), some (aI x), o2] [] J L R K Q) 0 := by
    refine loop_up (C := fun m : Nat => ∀ (x : Int) (J : IH) (o2 : Option AV), nL o2 → x = (m : Int) → Sg I J → (∀ c : Nat, c < m → J 127 c = 0) → (∀ j, J 128 j = J0 128 j) → E sc 138 2 [some (aR (some 77)), some (aI x), o2] [] J L R K Q) 5 ?_ ?_
    · intro m hm hc x J o2 n2 hx hs hz h128
      subst hx
      refine w_138_2 n2 hL ⟨fun q1 => by omega, fun q1 => ⟨by omega, by omega, hc _ _ _ n2 (by omega) (s1 hs (by omega)) (fun c hcm => ?_) (fun j => by rw [setF_c (by omega)]; exact h128 j)⟩⟩
      rw [setF_i, Int.toNat_natCast]
      by_cases q : c = m
      · rw [if_pos q]
      · rw [if_neg q]; exact hz c (by omega)
    · intro x J o2 n2 hx hs hz h128
      subst hx
      exact w_138_2 n2 hL ⟨fun q1 => lB J _ n2 hs hz h128, fun q1 => by omega⟩
  exact w_138_0 hL (lA _ _ _ nl_n rfl hs0 (fun c hc => by omega) (fun _ => rfl))
def tkn (J : IH) : Nat → Nat := fun k => (J 128 k).toNat
def TknOK (I J : IH) : Prop := DigOK I (tkn J) ∧ ∀ k : Nat, k < 5 → 0 ≤ J 128 k
theorem fitsM_sg {I J : IH} (hs : Sg I J) {t : Nat} {s : Int} : fitsM J t s = fitsM I t s := by
  unfold fitsM
  rw [hs 80 t (by unfold S0; omega), hs 81 t (by unfold S0; omega), show (fun k => J 82 (5 * t + k)) = (fun k => I 82 (5 * t + k)) from funext fun k => hs 82 _ (by unfold S0; omega)]
theorem w_139_0 {sc : Nat × (Nat → Int)} {I : IH} {L : LH} {R : RH} {K : KH} {Q : AQ} (hL : Lay R K) (h : E sc 139 4 [some (aR (some 77)), some (aI 0), some (aI 0), none, none, none, none] [] I L R K Q) : E sc 139 0 [some (aR (some 77)), none, none, none, none, none, none] [] I L R K Q :=
  e_iconst mb_139 dX12_keptBy_0 cv_iconst_0 (e_istore_n (l1 := [some (aR (some 77)), some (aI 0), none, none, none, none, none]) mb_139 dX12_keptBy_1 rfl (e_iconst mb_139 dX12_keptBy_2 cv_iconst_0 (e_istore_n (l1 := [some (aR (some 77)), some (aI 0), some (aI 0), none, none, none, none]) mb_139 dX12_keptBy_3 rfl h)))
theorem w_139_4 {sc : Nat × (Nat → Int)} {I : IH} {L : LH} {R : RH} {K : KH} {Q : AQ} {x1 x2 : Int} {o3 o4 o5 o6 : Option AV} (no3 : nL o3) (no4 : nL o4) (no5 : nL o5) (no6 : nL o6) (hL : Lay R K) (h : ((1536 ≤ x2 → Q (some (aI x1)) I L R K) ∧ (x2 < 1536 → (((0 : Int) ≤ x2 ∧ x2 < (1536 : Int))) ∧ (((0 : Int) ≤ x2 ∧ x2 < (1536 : Int))) ∧ E sc 139 29 [some (aR (some 77)), some (aI x1), some (aI x2), some (aI (I 125 x2.toNat)), some (aI (I 126 x2.toNat)), some (aI 0), o6] [] I L R K Q))) : E sc 139 4 [some (aR (some 77)), some (aI x1), some (aI x2), o3, o4, o5, o6] [] I L R K Q :=
  e_iload_n mb_139 dX12_keptBy_4 rfl (e_sipush mb_139 dX12_keptBy_5 cv_sipush_1536 (e_icmp mb_139 dX12_keptBy_8 rfl (fun q1 => e_iload_n mb_139 dX12_keptBy_201 rfl (e_ireturn mb_139 dX12_keptBy_202 ri_139 (h.1 (cb_ge.1.mp q1)))) (fun q1 => e_aload_n mb_139 dX12_keptBy_11 rfl (e_getr mb_139 dX12_keptBy_12 mf_139.1 fs_49311 fk_12_62 (lk_77 hL) (lr_77_62 hL) (e_iload_n mb_139 dX12_keptBy_15 rfl (e_ial mb_139 dX12_keptBy_16 (lk_125 hL) (ll_125 hL) (h.2 (cb_ge.2.mp q1)).1 rfl (e_istore_n (l1 := [some (aR (some 77)), some (aI x1), some (aI x2), some (aI (I 125 x2.toNat)), o4, o5, o6]) mb_139 dX12_keptBy_17 rfl (e_aload_n mb_139 dX12_keptBy_18 rfl (e_getr mb_139 dX12_keptBy_19 mf_139.1 fs_49314 fk_12_63 (lk_77 hL) (lr_77_63 hL) (e_iload_n mb_139 dX12_keptBy_22 rfl (e_ial mb_139 dX12_keptBy_23 (lk_126 hL) (ll_126 hL) (h.2 (cb_ge.2.mp q1)).2.1 rfl (e_istore (l1 := [some (aR (some 77)), some (aI x1), some (aI x2), some (aI (I 125 x2.toNat)), some (aI (I 126 x2.toNat)), o5, o6]) mb_139 dX12_keptBy_24 rfl (e_iconst mb_139 dX12_keptBy_26 cv_iconst_0 (e_istore (l1 := [some (aR (some 77)), some (aI x1), some (aI x2), some (aI (I 125 x2.toNat)), some (aI (I 126 x2.toNat)), some (aI 0), o6]) mb_139 dX12_keptBy_27 rfl ((h.2 (cb_ge.2.mp q1)).2.2)))))))))))))))
theorem w_139_29 {sc : Nat × (Nat → Int)} {I : IH} {L : LH} {R : RH} {K : KH} {Q : AQ} {x1 x2 x3 x4 x5 : Int} {o6 : Option AV} (no6 : nL o6) (hL : Lay R K) (h : ((5 ≤ x5 → E sc 139 148 [some (aR (some 77)), some (aI x1), some (aI x2), some (aI x3), some (aI x4), some (aI 0), o6] [] I L R K Q) ∧ (x5 < 5 → ((-2147483648 : Int) ≤ 3 * x5 ∧ 3 * x5 < (2147483648 : Int)) ∧ (((0 : Int) ≤ x5 ∧ x5 < (5 : Int))) ∧ ((-2147483648 : Int) ≤ (3 * x5) + (I 128 x5.toNat) ∧ (3 * x5) + (I 128 x5.toNat) < (2147483648 : Int)) ∧ (((0 : Int) ≤ x5 ∧ x5 < (5 : Int))) ∧ (((I 111 x5.toNat) ≤ 0 → ((-2147483648 : Int) ≤ x5 + 1 ∧ x5 + 1 < (2147483648 : Int)) ∧ E sc 139 29 [some (aR (some 77)), some (aI x1), some (aI x2), some (aI x3), some (aI x4), some (aI (x5 + 1)), some (aI ((3 * x5) + (I 128 x5.toNat)))] [] I L R K Q) ∧ (0 < (I 111 x5.toNat) → (((0 : Int) ≤ ((3 * x5) + (I 128 x5.toNat)) ∧ ((3 * x5) + (I 128 x5.toNat)) < (15 : Int))) ∧ (((I 112 (((3 * x5) + (I 128 x5.toNat)).toNat)) < x4 → ((-2147483648 : Int) ≤ x5 + 1 ∧ x5 + 1 < (2147483648 : Int)) ∧ E sc 139 29 [some (aR (some 77)), some (aI x1), some (aI x2), some (aI x3), some (aI x4), some (aI (x5 + 1)), some (aI ((3 * x5) + (I 128 x5.toNat)))] [] I L R K Q) ∧ (x4 ≤ (I 112 (((3 * x5) + (I 128 x5.toNat)).toNat)) → ((-2147483648 : Int) ≤ 80 + ((3 * x5) + (I 128 x5.toNat)) ∧ 80 + ((3 * x5) + (I 128 x5.toNat)) < (2147483648 : Int)) ∧ ((0 ≤ (80 + ((3 * x5) + (I 128 x5.toNat))) ∧ (80 + ((3 * x5) + (I 128 x5.toNat))) < 96) ∧ (0 ≤ x2 ∧ x2 < 1536) ∧ (TestsOK I (80 + ((3 * x5) + (I 128 x5.toNat))).toNat)) ∧ ((fitsM I (80 + ((3 * x5) + (I 128 x5.toNat))).toNat x2 = true → (((0 : Int) ≤ ((3 * x5) + (I 128 x5.toNat)) ∧ ((3 * x5) + (I 128 x5.toNat)) < (15 : Int))) ∧ (((I 112 (((3 * x5) + (I 128 x5.toNat)).toNat)) ≤ x4 → ((-2147483648 : Int) ≤ 80 + ((3 * x5) + (I 128 x5.toNat)) ∧ 80 + ((3 * x5) + (I 128 x5.toNat)) < (2147483648 : Int)) ∧ (((0 : Int) ≤ (80 + ((3 * x5) + (I 128 x5.toNat))) ∧ (80 + ((3 * x5) + (I 128 x5.toNat))) < (96 : Int))) ∧ ((x3 ≠ (I 79 ((80 + ((3 * x5) + (I 128 x5.toNat))).toNat)) → (((0 : Int) ≤ ((3 * x5) + (I 128 x5.toNat)) ∧ ((3 * x5) + (I 128 x5.toNat)) < (15 : Int))) ∧ ((-2147483648 : Int) ≤ x5 + 1 ∧ x5 + 1 < (2147483648 : Int)) ∧ E sc 139 29 [some (aR (some 77)), some (aI x1), some (aI x2), some (aI (-2)), some (aI (I 112 (((3 * x5) + (I 128 x5.toNat)).toNat))), some (aI (x5 + 1)), some (aI ((3 * x5) + (I 128 x5.toNat)))] [] I L R K Q) ∧ (x3 = (I 79 ((80 + ((3 * x5) + (I 128 x5.toNat))).toNat)) → (((0 : Int) ≤ ((3 * x5) + (I 128 x5.toNat)) ∧ ((3 * x5) + (I 128 x5.toNat)) < (15 : Int))) ∧ ((-2147483648 : Int) ≤ x5 + 1 ∧ x5 + 1 < (2147483648 : Int)) ∧ E sc 139 29 [some (aR (some 77)), some (aI x1), some (aI x2), some (aI x3), some (aI (I 112 (((3 * x5) + (I 128 x5.toNat)).toNat))), some (aI (x5 + 1)), some (aI ((3 * x5) + (I 128 x5.toNat)))] [] I L R K Q))) ∧ (x4 < (I 112 (((3 * x5) + (I 128 x5.toNat)).toNat)) → ((-2147483648 : Int) ≤ 80 + ((3 * x5) + (I 128 x5.toNat)) ∧ 80 + ((3 * x5) + (I 128 x5.toNat)) < (2147483648 : Int)) ∧ (((0 : Int) ≤ (80 + ((3 * x5) + (I 128 x5.toNat))) ∧ (80 + ((3 * x5) + (I 128 x5.toNat))) < (96 : Int))) ∧ (((0 : Int) ≤ ((3 * x5) + (I 128 x5.toNat)) ∧ ((3 * x5) + (I 128 x5.toNat)) < (15 : Int))) ∧ ((-2147483648 : Int) ≤ x5 + 1 ∧ x5 + 1 < (2147483648 : Int)) ∧ E sc 139 29 [some (aR (some 77)), some (aI x1), some (aI x2), some (aI (I 79 ((80 + ((3 * x5) + (I 128 x5.toNat))).toNat))), some (aI (I 112 (((3 * x5) + (I 128 x5.toNat)).toNat))), some (aI (x5 + 1)), some (aI ((3 * x5) + (I 128 x5.toNat)))] [] I L R K Q))) ∧ (¬(fitsM I (80 + ((3 * x5) + (I 128 x5.toNat))).toNat x2 = true) → ((-2147483648 : Int) ≤ x5 + 1 ∧ x5 + 1 < (2147483648 : Int)) ∧ E sc 139 29 [some (aR (some 77)), some (aI x1), some (aI x2), some (aI x3), some (aI x4), some (aI (x5 + 1)), some (aI ((3 * x5) + (I 128 x5.toNat)))] [] I L R K Q))))))))) : E sc 139 29 [some (aR (some 77)), some (aI x1), some (aI x2), some (aI x3), some (aI x4), some (aI x5), o6] [] I L R K Q :=
  e_iload mb_139 dX12_keptBy_29 rfl (e_iconst mb_139 dX12_keptBy_31 cv_iconst_5 (e_icmp mb_139 dX12_keptBy_32 rfl (fun q1 => e_iconst mb_139 dX12_keptBy_145 cv_iconst_0 (e_istore (l1 := [some (aR (some 77)), some (aI x1), some (aI x2), some (aI x3), some (aI x4), some (aI 0), o6]) mb_139 dX12_keptBy_146 rfl ((h.1 (cb_ge.1.mp q1))))) (fun q1 => e_iconst mb_139 dX12_keptBy_35 cv_iconst_3 (e_iload mb_139 dX12_keptBy_36 rfl (e_imul mb_139 dX12_keptBy_38 (h.2 (cb_ge.2.mp q1)).1 (e_aload_n mb_139 dX12_keptBy_39 rfl (e_getr mb_139 dX12_keptBy_40 mf_139.1 fs_49320 fk_12_65 (lk_77 hL) (lr_77_65 hL) (e_iload mb_139 dX12_keptBy_43 rfl (e_ial mb_139 dX12_keptBy_45 (lk_128 hL) (ll_128 hL) (h.2 (cb_ge.2.mp q1)).2.1 rfl (e_iadd mb_139 dX12_keptBy_46 (h.2 (cb_ge.2.mp q1)).2.2.1 (e_istore (l1 := [some (aR (some 77)), some (aI x1), some (aI x2), some (aI x3), some (aI x4), some (aI x5), some (aI ((3 * x5) + (I 128 x5.toNat)))]) mb_139 dX12_keptBy_47 rfl (e_aload_n mb_139 dX12_keptBy_49 rfl (e_getr mb_139 dX12_keptBy_50 mf_139.1 fs_49266 fk_12_41 (lk_77 hL) (lr_77_41 hL) (e_iload mb_139 dX12_keptBy_53 rfl (e_ial mb_139 dX12_keptBy_55 (lk_111 hL) (ll_111 hL) (h.2 (cb_ge.2.mp q1)).2.2.2.1 rfl (e_if mb_139 dX12_keptBy_56 rfl (fun q2 => e_iinc (l1 := [some (aR (some 77)), some (aI x1), some (aI x2), some (aI x3), some (aI x4), some (aI (x5 + 1)), some (aI ((3 * x5) + (I 128 x5.toNat)))]) mb_139 dX12_keptBy_139 rfl ((h.2 (cb_ge.2.mp q1)).2.2.2.2.1 (cb_le.1.mp q2)).1 rfl (e_goto mb_139 dX12_keptBy_142 rfl (((h.2 (cb_ge.2.mp q1)).2.2.2.2.1 (cb_le.1.mp q2)).2))) (fun q2 => e_aload_n mb_139 dX12_keptBy_59 rfl (e_getr mb_139 dX12_keptBy_60 mf_139.1 fs_49269 fk_12_42 (lk_77 hL) (lr_77_42 hL) (e_iload mb_139 dX12_keptBy_63 rfl (e_ial mb_139 dX12_keptBy_65 (lk_112 hL) (ll_112 hL) ((h.2 (cb_ge.2.mp q1)).2.2.2.2.2 (cb_le.2.mp q2)).1 rfl (e_iload mb_139 dX12_keptBy_66 rfl (e_icmp mb_139 dX12_keptBy_68 rfl (fun q3 => e_iinc (l1 := [some (aR (some 77)), some (aI x1), some (aI x2), some (aI x3), some (aI x4), some (aI (x5 + 1)), some (aI ((3 * x5) + (I 128 x5.toNat)))]) mb_139 dX12_keptBy_139 rfl (((h.2 (cb_ge.2.mp q1)).2.2.2.2.2 (cb_le.2.mp q2)).2.1 (cb_lt.1.mp q3)).1 rfl (e_goto mb_139 dX12_keptBy_142 rfl ((((h.2 (cb_ge.2.mp q1)).2.2.2.2.2 (cb_le.2.mp q2)).2.1 (cb_lt.1.mp q3)).2))) (fun q3 => e_aload_n mb_139 dX12_keptBy_71 rfl (e_bipush mb_139 dX12_keptBy_72 cv_bipush_80 (e_iload mb_139 dX12_keptBy_74 rfl (e_iadd mb_139 dX12_keptBy_76 (((h.2 (cb_ge.2.mp q1)).2.2.2.2.2 (cb_le.2.mp q2)).2.2 (cb_lt.2.mp q3)).1 (e_iload_n mb_139 dX12_keptBy_77 rfl (e_callV mb_139 dX12_keptBy_78 mf_139 mf_85 cs_49401 rfl rfl rfl rfl (lk_77 hL) rfl (v_85 hL (((h.2 (cb_ge.2.mp q1)).2.2.2.2.2 (cb_le.2.mp q2)).2.2 (cb_lt.2.mp q3)).2.1.1 (((h.2 (cb_ge.2.mp q1)).2.2.2.2.2 (cb_le.2.mp q2)).2.2 (cb_lt.2.mp q3)).2.1.2.1 (((h.2 (cb_ge.2.mp q1)).2.2.2.2.2 (cb_le.2.mp q2)).2.2 (cb_lt.2.mp q3)).2.1.2.2 (show E _ _ _ _ (_ :: _) _ _ _ _ _ from e_ifb_eq mb_139 dX12_keptBy_81 rfl ⟨fun q4 => e_aload_n mb_139 dX12_keptBy_84 rfl (e_getr mb_139 dX12_keptBy_85 mf_139.1 fs_49269 fk_12_42 (lk_77 hL) (lr_77_42 hL) (e_iload mb_139 dX12_keptBy_88 rfl (e_ial mb_139 dX12_keptBy_90 (lk_112 hL) (ll_112 hL) ((((h.2 (cb_ge.2.mp q1)).2.2.2.2.2 (cb_le.2.mp q2)).2.2 (cb_lt.2.mp q3)).2.2.1 q4).1 rfl (e_iload mb_139 dX12_keptBy_91 rfl (e_icmp mb_139 dX12_keptBy_93 rfl (fun q5 => e_iload_n mb_139 dX12_keptBy_109 rfl (e_aload_n mb_139 dX12_keptBy_110 rfl (e_getr mb_139 dX12_keptBy_111 mf_139.1 fs_49165 fk_12_3 (lk_77 hL) (lr_77_3 hL) (e_bipush mb_139 dX12_keptBy_114 cv_bipush_80 (e_iload mb_139 dX12_keptBy_116 rfl (e_iadd mb_139 dX12_keptBy_118 (((((h.2 (cb_ge.2.mp q1)).2.2.2.2.2 (cb_le.2.mp q2)).2.2 (cb_lt.2.mp q3)).2.2.1 q4).2.1 (cb_le.1.mp q5)).1 (e_ial mb_139 dX12_keptBy_119 (lk_79 hL) (ll_79 hL) (((((h.2 (cb_ge.2.mp q1)).2.2.2.2.2 (cb_le.2.mp q2)).2.2 (cb_lt.2.mp q3)).2.2.1 q4).2.1 (cb_le.1.mp q5)).2.1 rfl (e_icmp mb_139 dX12_keptBy_120 rfl (fun q6 => e_bipush mb_139 dX12_keptBy_127 cv_bipush_m2 (e_istore_n (l1 := [some (aR (some 77)), some (aI x1), some (aI x2), some (aI (-2)), some (aI x4), some (aI x5), some (aI ((3 * x5) + (I 128 x5.toNat)))]) mb_139 dX12_keptBy_129 rfl (e_aload_n mb_139 dX12_keptBy_130 rfl (e_getr mb_139 dX12_keptBy_131 mf_139.1 fs_49269 fk_12_42 (lk_77 hL) (lr_77_42 hL) (e_iload mb_139 dX12_keptBy_134 rfl (e_ial mb_139 dX12_keptBy_136 (lk_112 hL) (ll_112 hL) ((((((h.2 (cb_ge.2.mp q1)).2.2.2.2.2 (cb_le.2.mp q2)).2.2 (cb_lt.2.mp q3)).2.2.1 q4).2.1 (cb_le.1.mp q5)).2.2.1 (cb_ne.1.mp q6)).1 rfl (e_istore (l1 := [some (aR (some 77)), some (aI x1), some (aI x2), some (aI (-2)), some (aI (I 112 (((3 * x5) + (I 128 x5.toNat)).toNat))), some (aI x5), some (aI ((3 * x5) + (I 128 x5.toNat)))]) mb_139 dX12_keptBy_137 rfl (e_iinc (l1 := [some (aR (some 77)), some (aI x1), some (aI x2), some (aI (-2)), some (aI (I 112 (((3 * x5) + (I 128 x5.toNat)).toNat))), some (aI (x5 + 1)), some (aI ((3 * x5) + (I 128 x5.toNat)))]) mb_139 dX12_keptBy_139 rfl ((((((h.2 (cb_ge.2.mp q1)).2.2.2.2.2 (cb_le.2.mp q2)).2.2 (cb_lt.2.mp q3)).2.2.1 q4).2.1 (cb_le.1.mp q5)).2.2.1 (cb_ne.1.mp q6)).2.1 rfl (e_goto mb_139 dX12_keptBy_142 rfl (((((((h.2 (cb_ge.2.mp q1)).2.2.2.2.2 (cb_le.2.mp q2)).2.2 (cb_lt.2.mp q3)).2.2.1 q4).2.1 (cb_le.1.mp q5)).2.2.1 (cb_ne.1.mp q6)).2.2)))))))))) (fun q6 => e_iload_n mb_139 dX12_keptBy_123 rfl (e_goto mb_139 dX12_keptBy_124 rfl (e_istore_n (l1 := [some (aR (some 77)), some (aI x1), some (aI x2), some (aI x3), some (aI x4), some (aI x5), some (aI ((3 * x5) + (I 128 x5.toNat)))]) mb_139 dX12_keptBy_129 rfl (e_aload_n mb_139 dX12_keptBy_130 rfl (e_getr mb_139 dX12_keptBy_131 mf_139.1 fs_49269 fk_12_42 (lk_77 hL) (lr_77_42 hL) (e_iload mb_139 dX12_keptBy_134 rfl (e_ial mb_139 dX12_keptBy_136 (lk_112 hL) (ll_112 hL) ((((((h.2 (cb_ge.2.mp q1)).2.2.2.2.2 (cb_le.2.mp q2)).2.2 (cb_lt.2.mp q3)).2.2.1 q4).2.1 (cb_le.1.mp q5)).2.2.2 (cb_ne.2.mp q6)).1 rfl (e_istore (l1 := [some (aR (some 77)), some (aI x1), some (aI x2), some (aI x3), some (aI (I 112 (((3 * x5) + (I 128 x5.toNat)).toNat))), some (aI x5), some (aI ((3 * x5) + (I 128 x5.toNat)))]) mb_139 dX12_keptBy_137 rfl (e_iinc (l1 := [some (aR (some 77)), some (aI x1), some (aI x2), some (aI x3), some (aI (I 112 (((3 * x5) + (I 128 x5.toNat)).toNat))), some (aI (x5 + 1)), some (aI ((3 * x5) + (I 128 x5.toNat)))]) mb_139 dX12_keptBy_139 rfl ((((((h.2 (cb_ge.2.mp q1)).2.2.2.2.2 (cb_le.2.mp q2)).2.2 (cb_lt.2.mp q3)).2.2.1 q4).2.1 (cb_le.1.mp q5)).2.2.2 (cb_ne.2.mp q6)).2.1 rfl (e_goto mb_139 dX12_keptBy_142 rfl (((((((h.2 (cb_ge.2.mp q1)).2.2.2.2.2 (cb_le.2.mp q2)).2.2 (cb_lt.2.mp q3)).2.2.1 q4).2.1 (cb_le.1.mp q5)).2.2.2 (cb_ne.2.mp q6)).2.2))))))))))))))))))) (fun q5 => e_aload_n mb_139 dX12_keptBy_96 rfl (e_getr mb_139 dX12_keptBy_97 mf_139.1 fs_49165 fk_12_3 (lk_77 hL) (lr_77_3 hL) (e_bipush mb_139 dX12_keptBy_100 cv_bipush_80 (e_iload mb_139 dX12_keptBy_102 rfl (e_iadd mb_139 dX12_keptBy_104 (((((h.2 (cb_ge.2.mp q1)).2.2.2.2.2 (cb_le.2.mp q2)).2.2 (cb_lt.2.mp q3)).2.2.1 q4).2.2 (cb_le.2.mp q5)).1 (e_ial mb_139 dX12_keptBy_105 (lk_79 hL) (ll_79 hL) (((((h.2 (cb_ge.2.mp q1)).2.2.2.2.2 (cb_le.2.mp q2)).2.2 (cb_lt.2.mp q3)).2.2.1 q4).2.2 (cb_le.2.mp q5)).2.1 rfl (e_goto mb_139 dX12_keptBy_106 rfl (e_istore_n (l1 := [some (aR (some 77)), some (aI x1), some (aI x2), some (aI (I 79 ((80 + ((3 * x5) + (I 128 x5.toNat))).toNat))), some (aI x4), some (aI x5), some (aI ((3 * x5) + (I 128 x5.toNat)))]) mb_139 dX12_keptBy_129 rfl (e_aload_n mb_139 dX12_keptBy_130 rfl (e_getr mb_139 dX12_keptBy_131 mf_139.1 fs_49269 fk_12_42 (lk_77 hL) (lr_77_42 hL) (e_iload mb_139 dX12_keptBy_134 rfl (e_ial mb_139 dX12_keptBy_136 (lk_112 hL) (ll_112 hL) (((((h.2 (cb_ge.2.mp q1)).2.2.2.2.2 (cb_le.2.mp q2)).2.2 (cb_lt.2.mp q3)).2.2.1 q4).2.2 (cb_le.2.mp q5)).2.2.1 rfl (e_istore (l1 := [some (aR (some 77)), some (aI x1), some (aI x2), some (aI (I 79 ((80 + ((3 * x5) + (I 128 x5.toNat))).toNat))), some (aI (I 112 (((3 * x5) + (I 128 x5.toNat)).toNat))), some (aI x5), some (aI ((3 * x5) + (I 128 x5.toNat)))]) mb_139 dX12_keptBy_137 rfl (e_iinc (l1 := [some (aR (some 77)), some (aI x1), some (aI x2), some (aI (I 79 ((80 + ((3 * x5) + (I 128 x5.toNat))).toNat))), some (aI (I 112 (((3 * x5) + (I 128 x5.toNat)).toNat))), some (aI (x5 + 1)), some (aI ((3 * x5) + (I 128 x5.toNat)))]) mb_139 dX12_keptBy_139 rfl (((((h.2 (cb_ge.2.mp q1)).2.2.2.2.2 (cb_le.2.mp q2)).2.2 (cb_lt.2.mp q3)).2.2.1 q4).2.2 (cb_le.2.mp q5)).2.2.2.1 rfl (e_goto mb_139 dX12_keptBy_142 rfl ((((((h.2 (cb_ge.2.mp q1)).2.2.2.2.2 (cb_le.2.mp q2)).2.2 (cb_lt.2.mp q3)).2.2.1 q4).2.2 (cb_le.2.mp q5)).2.2.2.2))))))))))))))))))))), fun q4 => e_iinc (l1 := [some (aR (some 77)), some (aI x1), some (aI x2), some (aI x3), some (aI x4), some (aI (x5 + 1)), some (aI ((3 * x5) + (I 128 x5.toNat)))]) mb_139 dX12_keptBy_139 rfl ((((h.2 (cb_ge.2.mp q1)).2.2.2.2.2 (cb_le.2.mp q2)).2.2 (cb_lt.2.mp q3)).2.2.2 q4).1 rfl (e_goto mb_139 dX12_keptBy_142 rfl (((((h.2 (cb_ge.2.mp q1)).2.2.2.2.2 (cb_le.2.mp q2)).2.2 (cb_lt.2.mp q3)).2.2.2 q4).2))⟩))))))))))))))))))))))))))))))
theorem w_139_148 {sc : Nat × (Nat → Int)} {I : IH} {L : LH} {R : RH} {K : KH} {Q : AQ} {x1 x2 x3 x5 : Int} {o4 o6 : Option AV} (no4 : nL o4) (no6 : nL o6) (hL : Lay R K) (h : ((5 ≤ x5 → ((-2147483648 : Int) ≤ x2 + 1 ∧ x2 + 1 < (2147483648 : Int)) ∧ E sc 139 4 [some (aR (some 77)), some (aI x1), some (aI (x2 + 1)), some (aI x3), o4, some (aI x5), o6] [] I L R K Q) ∧ (x5 < 5 → ((x3 < 0 → ((-2147483648 : Int) ≤ x2 + 1 ∧ x2 + 1 < (2147483648 : Int)) ∧ E sc 139 4 [some (aR (some 77)), some (aI x1), some (aI (x2 + 1)), some (aI x3), o4, some (aI x5), o6] [] I L R K Q) ∧ (0 ≤ x3 → ((-2147483648 : Int) ≤ 1536 * x5 ∧ 1536 * x5 < (2147483648 : Int)) ∧ ((-2147483648 : Int) ≤ (1536 * x5) + x2 ∧ (1536 * x5) + x2 < (2147483648 : Int)) ∧ (((0 : Int) ≤ ((1536 * x5) + x2) ∧ ((1536 * x5) + x2) < (7680 : Int))) ∧ (((I 124 (((1536 * x5) + x2).toNat)) ≠ x3 → ((-2147483648 : Int) ≤ x1 + 0 ∧ x1 + 0 < (2147483648 : Int)) ∧ ((-2147483648 : Int) ≤ x5 + 1 ∧ x5 + 1 < (2147483648 : Int)) ∧ E sc 139 148 [some (aR (some 77)), some (aI (x1 + 0)), some (aI x2), some (aI x3), o4, some (aI (x5 + 1)), o6] [] I L R K Q) ∧ ((I 124 (((1536 * x5) + x2).toNat)) = x3 → (((0 : Int) ≤ x5 ∧ x5 < (5 : Int))) ∧ ((-2147483648 : Int) ≤ x1 + (I 127 x5.toNat) ∧ x1 + (I 127 x5.toNat) < (2147483648 : Int)) ∧ ((-2147483648 : Int) ≤ x5 + 1 ∧ x5 + 1 < (2147483648 : Int)) ∧ E sc 139 148 [some (aR (some 77)), some (aI (x1 + (I 127 x5.toNat))), some (aI x2), some (aI x3), o4, some (aI (x5 + 1)), o6] [] I L R K Q))))))) : E sc 139 148 [some (aR (some 77)), some (aI x1), some (aI x2), some (aI x3), o4, some (aI x5), o6] [] I L R K Q :=
  e_iload mb_139 dX12_keptBy_148 rfl (e_iconst mb_139 dX12_keptBy_150 cv_iconst_5 (e_icmp mb_139 dX12_keptBy_151 rfl (fun q1 => e_iinc (l1 := [some (aR (some 77)), some (aI x1), some (aI (x2 + 1)), some (aI x3), o4, some (aI x5), o6]) mb_139 dX12_keptBy_195 rfl (h.1 (cb_ge.1.mp q1)).1 rfl (e_goto mb_139 dX12_keptBy_198 rfl ((h.1 (cb_ge.1.mp q1)).2))) (fun q1 => e_iload_n mb_139 dX12_keptBy_154 rfl (e_if mb_139 dX12_keptBy_155 rfl (fun q2 => e_iinc (l1 := [some (aR (some 77)), some (aI x1), some (aI (x2 + 1)), some (aI x3), o4, some (aI x5), o6]) mb_139 dX12_keptBy_195 rfl ((h.2 (cb_ge.2.mp q1)).1 (cb_lt.1.mp q2)).1 rfl (e_goto mb_139 dX12_keptBy_198 rfl (((h.2 (cb_ge.2.mp q1)).1 (cb_lt.1.mp q2)).2))) (fun q2 => e_iload_n mb_139 dX12_keptBy_158 rfl (e_aload_n mb_139 dX12_keptBy_159 rfl (e_getr mb_139 dX12_keptBy_160 mf_139.1 fs_49308 fk_12_61 (lk_77 hL) (lr_77_61 hL) (e_sipush mb_139 dX12_keptBy_163 cv_sipush_1536 (e_iload mb_139 dX12_keptBy_166 rfl (e_imul mb_139 dX12_keptBy_168 ((h.2 (cb_ge.2.mp q1)).2 (cb_lt.2.mp q2)).1 (e_iload_n mb_139 dX12_keptBy_169 rfl (e_iadd mb_139 dX12_keptBy_170 ((h.2 (cb_ge.2.mp q1)).2 (cb_lt.2.mp q2)).2.1 (e_ial mb_139 dX12_keptBy_171 (lk_124 hL) (ll_124 hL) ((h.2 (cb_ge.2.mp q1)).2 (cb_lt.2.mp q2)).2.2.1 rfl (e_iload_n mb_139 dX12_keptBy_172 rfl (e_icmp mb_139 dX12_keptBy_173 rfl (fun q3 => e_iconst mb_139 dX12_keptBy_186 cv_iconst_0 (e_iadd mb_139 dX12_keptBy_187 (((h.2 (cb_ge.2.mp q1)).2 (cb_lt.2.mp q2)).2.2.2.1 (cb_ne.1.mp q3)).1 (e_istore_n (l1 := [some (aR (some 77)), some (aI (x1 + 0)), some (aI x2), some (aI x3), o4, some (aI x5), o6]) mb_139 dX12_keptBy_188 rfl (e_iinc (l1 := [some (aR (some 77)), some (aI (x1 + 0)), some (aI x2), some (aI x3), o4, some (aI (x5 + 1)), o6]) mb_139 dX12_keptBy_189 rfl (((h.2 (cb_ge.2.mp q1)).2 (cb_lt.2.mp q2)).2.2.2.1 (cb_ne.1.mp q3)).2.1 (aset_nl no4 rfl rfl rfl) (e_goto mb_139 dX12_keptBy_192 rfl ((((h.2 (cb_ge.2.mp q1)).2 (cb_lt.2.mp q2)).2.2.2.1 (cb_ne.1.mp q3)).2.2)))))) (fun q3 => e_aload_n mb_139 dX12_keptBy_176 rfl (e_getr mb_139 dX12_keptBy_177 mf_139.1 fs_49317 fk_12_64 (lk_77 hL) (lr_77_64 hL) (e_iload mb_139 dX12_keptBy_180 rfl (e_ial mb_139 dX12_keptBy_182 (lk_127 hL) (ll_127 hL) (((h.2 (cb_ge.2.mp q1)).2 (cb_lt.2.mp q2)).2.2.2.2 (cb_ne.2.mp q3)).1 rfl (e_goto mb_139 dX12_keptBy_183 rfl (e_iadd mb_139 dX12_keptBy_187 (((h.2 (cb_ge.2.mp q1)).2 (cb_lt.2.mp q2)).2.2.2.2 (cb_ne.2.mp q3)).2.1 (e_istore_n (l1 := [some (aR (some 77)), some (aI (x1 + (I 127 x5.toNat))), some (aI x2), some (aI x3), o4, some (aI x5), o6]) mb_139 dX12_keptBy_188 rfl (e_iinc (l1 := [some (aR (some 77)), some (aI (x1 + (I 127 x5.toNat))), some (aI x2), some (aI x3), o4, some (aI (x5 + 1)), o6]) mb_139 dX12_keptBy_189 rfl (((h.2 (cb_ge.2.mp q1)).2 (cb_lt.2.mp q2)).2.2.2.2 (cb_ne.2.mp q3)).2.2.1 (aset_nl no4 rfl rfl rfl) (e_goto mb_139 dX12_keptBy_192 rfl ((((h.2 (cb_ge.2.mp q1)).2 (cb_lt.2.mp q2)).2.2.2.2 (cb_ne.2.mp q3)).2.2.2)))))))))))))))))))))))))
theorem v_139 {N : Nat} {sc : Nat × (Nat → Int)} {I J : IH} {L : LH} {R : RH} {K : KH} {Q : AQ} (hL : Lay R K) (hp : Inv N I L R K ∧ FindS I J ∧ TknOK I J) (h : Q (some (aI (KepI I (tkn J) 1536))) J L R K) : E sc 139 0 [some (aR (some 77)), none, none, none, none, none, none] [] J L R K Q := by
  obtain ⟨hI, ⟨f1, f2, f3, f4⟩, hd, htk⟩ := hp
  have hW := iW hI
  have key : (fun m : Nat => ∀ (x y : Int) (o3 o4 o5 o6 : Option AV), nL o3 → nL o4 → nL o5 → nL o6 → x = KepI I (tkn J) m → y = (m : Int) → E sc 139 4 [some (aR (some 77)), some (aI x), some (aI y), o3, o4, o5, o6] [] J L R K Q) 0 := by
    refine loop_up (C := fun m : Nat => ∀ (x y : Int) (o3 o4 o5 o6 : Option AV), nL o3 → nL o4 → nL o5 → nL o6 → x = KepI I (tkn J) m → y = (m : Int) → E sc 139 4 [some (aR (some 77)), some (aI x), some (aI y), o3, o4, o5, o6] [] J L R K Q) 1536 ?_ ?_
    · intro m hm hc x y o3 o4 o5 o6 n3 n4 n5 n6 hx hy
      subst hy
      have bK := Kep_b hI (t := tkn J) m
      have hf := f4 m hm
      have esum : ∀ e, e = tpI I (tkn J) (m : Int) 5 % 256 - 3 → KepI I (tkn J) (m + 1) = KepI I (tkn J) m + conI I (m : Int) e := fun e he => by rw [he]; rfl
      -- the customs
      have l148 : ∀ (e : Int) (o4 o6 : Option AV), nL o4 → nL o6 → e = tpI I (tkn J) (m : Int) 5 % 256 - 3 → E sc 139 148 [some (aR (some 77)), some (aI x), some (aI (m : Int)), some (aI e), o4, some (aI 0), o6] [] J L R K Q := by
        intro e o4 o6 n4 n6 he
        by_cases q : e < 0
        · have ez : conI I (m : Int) e = 0 := by unfold conI; rw [if_neg (by omega)]
          exact w_139_148 n4 n6 hL ⟨fun q1 => by omega, fun q1 => ⟨fun q2 => ⟨by omega, hc _ _ _ _ _ _ nl_i n4 nl_i n6 (by rw [esum e he, ez, hx]; omega) (by omega)⟩, fun q2 => by omega⟩⟩
        · have ez : conI I (m : Int) e = conP I (m : Int) e 5 := by unfold conI; rw [if_pos (by omega)]
          have k2 : (fun c : Nat => ∀ (z y : Int), z = x + conP I (m : Int) e c → y = (c : Int) → E sc 139 148 [some (aR (some 77)), some (aI z), some (aI (m : Int)), some (aI e), o4, some (aI y), o6] [] J L R K Q) 0 := by
            refine loop_up (C := fun c : Nat => ∀ (z y : Int), z = x + conP I (m : Int) e c → y = (c : Int) → E sc 139 148 [some (aR (some 77)), some (aI z), some (aI (m : Int)), some (aI e), o4, some (aI y), o6] [] J L R K Q) 5 ?_ ?_
            · intro c hc5 hcc z y hz hy
              subst hy
              have bc := conP_b hI (s := (m : Int)) (e := e) c
              have bf := fol_b hI (c := (c : Int))
              have ei : ((1536 * (c : Int)) + (m : Int)).toNat = 1536 * c + m := by omega
              have e124 := f3 c m hc5 hm
              have e127 := f2 c hc5
              have es : conP I (m : Int) e (c + 1) = conP I (m : Int) e c + (if cusI I (c : Int) (m : Int) = e then folI I (c : Int) else 0 : Int) := rfl
              refine w_139_148 n4 n6 hL ?_
              simp only [Int.toNat_natCast]
              rw [ei, e124, e127]
              exact ⟨fun q1 => by omega, fun q1 => ⟨fun q2 => by omega, fun q2 => ⟨by omega, by omega, by omega, fun q3 => ⟨by omega, by omega, hcc _ _ (by rw [es, if_neg q3]; omega) (by omega)⟩, fun q3 => ⟨by omega, by omega, by omega, hcc _ _ (by rw [es, if_pos q3]; omega) (by omega)⟩⟩⟩⟩
            · intro z y hz hy
              subst hy
              exact w_139_148 n4 n6 hL ⟨fun q1 => ⟨by omega, hc _ _ _ _ _ _ nl_i n4 nl_i n6 (by rw [esum e he, ez, hz, hx]) (by omega)⟩, fun q1 => by omega⟩
          exact k2 _ _ (by show x = x + (0 : Int); omega) rfl
      -- the slots
      have l29 : (fun k : Nat => ∀ (e r y : Int) (o6 : Option AV), nL o6 → e = tpI I (tkn J) (m : Int) k % 256 - 3 → r = tpI I (tkn J) (m : Int) k / 256 - 1 → y = (k : Int) → E sc 139 29 [some (aR (some 77)), some (aI x), some (aI (m : Int)), some (aI e), some (aI r), some (aI y), o6] [] J L R K Q) 0 := by
        refine loop_up (C := fun k : Nat => ∀ (e r y : Int) (o6 : Option AV), nL o6 → e = tpI I (tkn J) (m : Int) k % 256 - 3 → r = tpI I (tkn J) (m : Int) k / 256 - 1 → y = (k : Int) → E sc 139 29 [some (aR (some 77)), some (aI x), some (aI (m : Int)), some (aI e), some (aI r), some (aI y), o6] [] J L R K Q) 5 ?_ ?_
        · intro k hk hck e r y o6 n6 he hr hy
          subst hy
          have e111 : J 111 k = I 111 k := f1 111 k (by unfold S0; omega)
          have bW := hW.1 k hk
          have rg := tp_rng hI hd (s := (m : Int)) k (by omega)
          have ht0 := htk k hk
          have etk : J 128 k = (tkn J k : Int) := by unfold tkn; omega
          have es : tpI I (tkn J) (m : Int) (k + 1) = if 0 < I 111 k ∧ fitsM I (80 + 3 * k + tkn J k) (m : Int) = true then jn (tpI I (tkn J) (m : Int) k) (I 112 (3 * k + tkn J k)) (I 79 (80 + 3 * k + tkn J k)) else tpI I (tkn J) (m : Int) k := rfl
          have hdk := hd k hk
          have b3 : tkn J k < 3 := by
            by_cases q : 0 < I 111 k
            · have := hdk.2 q; omega
            · have := hdk.1 (by omega); omega
          have ei : ((3 * (k : Int)) + J 128 k).toNat = 3 * k + tkn J k := by omega
          have ei2 : (80 + ((3 * (k : Int)) + J 128 k)).toNat = 80 + 3 * k + tkn J k := by omega
          have e112 : J 112 (3 * k + tkn J k) = I 112 (3 * k + tkn J k) := f1 112 _ (by unfold S0; omega)
          have e79 : J 79 (80 + 3 * k + tkn J k) = I 79 (80 + 3 * k + tkn J k) := f1 79 _ (by unfold S0; omega)
          have efit : fitsM J (80 + 3 * k + tkn J k) (m : Int) = fitsM I (80 + 3 * k + tkn J k) (m : Int) := fitsM_sg f1
          refine w_139_29 n6 hL ?_
          simp only [Int.toNat_natCast]
          rw [e111, ei, ei2, e112, e79, efit]
          refine ⟨fun q1 => by omega, fun q1 => ⟨by omega, by omega, by omega, by omega, fun q2 => ⟨by omega, hck _ _ _ _ nl_i ?_ ?_ (by omega)⟩, fun q2 => ?_⟩⟩
          · rw [es, if_neg (fun g => by omega)]; exact he
          · rw [es, if_neg (fun g => by omega)]; exact hr
          obtain ⟨w1, w2, w3, w4⟩ := way_at hI hd hk q2
          have t8 := w2.2.1
          have htests : TestsOK J (80 + 3 * k + tkn J k) := by
            unfold TestsOK
            rw [f1 81 _ (by unfold S0; omega)]
            exact ⟨t8.2.2.2.1, t8.2.2.2.2.1, fun i hi => by rw [f1 82 _ (by unfold S0; omega)]; exact t8.2.2.2.2.2 i hi⟩
          have stay : (¬ (0 < I 111 k ∧ fitsM I (80 + 3 * k + tkn J k) (m : Int) = true) ∨ I 112 (3 * k + tkn J k) < r) → e = tpI I (tkn J) (m : Int) (k + 1) % 256 - 3 ∧ r = tpI I (tkn J) (m : Int) (k + 1) / 256 - 1 := fun g => by
            rw [es]
            by_cases q : 0 < I 111 k ∧ fitsM I (80 + 3 * k + tkn J k) (m : Int) = true
            · have g2 : I 112 (3 * k + tkn J k) < r := by
                rcases g with g | g
                · exact absurd q g
                · exact g
              rw [if_pos q]
              unfold jn
              rw [if_neg (by omega), if_neg (by omega)]
              exact ⟨he, hr⟩
            · rw [if_neg q]; exact ⟨he, hr⟩
          refine ⟨by omega, fun q3 => ⟨by omega, hck _ _ _ _ nl_i (stay (.inr q3)).1 (stay (.inr q3)).2 (by omega)⟩, fun q3 => ⟨by omega, ⟨by omega, by omega, htests⟩, fun q4 => ⟨by omega, fun q5 => ⟨by omega, by omega, fun q6 => ⟨by omega, by omega, hck _ _ _ _ nl_i ?_ ?_ (by omega)⟩, fun q6 => ⟨by omega, by omega, hck _ _ _ _ nl_i ?_ ?_ (by omega)⟩⟩, fun q5 => ⟨by omega, by omega, by omega, by omega, hck _ _ _ _ nl_i ?_ ?_ (by omega)⟩⟩, fun q4 => ⟨by omega, hck _ _ _ _ nl_i (stay (.inl (fun g => q4 g.2))).1 (stay (.inl (fun g => q4 g.2))).2 (by omega)⟩⟩⟩
          · rw [es, if_pos ⟨q2, q4⟩]; unfold jn; rw [if_neg (by omega), if_pos (by omega)]; omega
          · rw [es, if_pos ⟨q2, q4⟩]; unfold jn; rw [if_neg (by omega), if_pos (by omega)]; omega
          · rw [es, if_pos ⟨q2, q4⟩]; unfold jn; rw [if_neg (by omega), if_neg (by omega)]; omega
          · rw [es, if_pos ⟨q2, q4⟩]; unfold jn; rw [if_neg (by omega), if_neg (by omega)]; omega
          · rw [es, if_pos ⟨q2, q4⟩]; unfold jn; rw [if_pos (by omega)]; omega
          · rw [es, if_pos ⟨q2, q4⟩]; unfold jn; rw [if_pos (by omega)]; omega
        · intro e r y o6 n6 he hr hy
          subst hy
          exact w_139_29 n6 hL ⟨fun q1 => l148 e _ _ nl_i n6 he, fun q1 => by omega⟩
      exact w_139_4 n3 n4 n5 n6 hL ⟨fun q1 => by omega, fun q1 => ⟨by omega, by omega, l29 _ _ _ _ n6 hf.1 hf.2 rfl⟩⟩
    · intro x y o3 o4 o5 o6 n3 n4 n5 n6 hx hy
      exact w_139_4 n3 n4 n5 n6 hL ⟨fun q1 => by rw [hx]; exact h, fun q1 => by omega⟩
  exact w_139_0 hL (key _ _ _ _ _ _ nl_n nl_n nl_n nl_n rfl rfl)
