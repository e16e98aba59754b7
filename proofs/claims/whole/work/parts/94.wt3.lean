/-! waits, taught: the reference, the calls -/
theorem w_152_0 {sc : Nat × (Nat → Int)} {I : IH} {L : LH} {R : RH} {K : KH} {Q : AQ} (hL : Lay R K) (h : ((-2147483648 : Int) ≤ (ishl 1 (I 77 18)) - 1 ∧ (ishl 1 (I 77 18)) - 1 < (2147483648 : Int)) ∧ (((0 : Int) ≤ ((ishl 1 (I 77 18)) - 1) ∧ ((ishl 1 (I 77 18)) - 1) < (256 : Int))) ∧ ((-2147483648 : Int) ≤ ((ishl 1 (I 77 18)) - 1) - 1 ∧ ((ishl 1 (I 77 18)) - 1) - 1 < (2147483648 : Int)) ∧ E sc 152 20 [some (aR (some 77)), some (aI ((ishl 1 (I 77 18)) - 1)), some (aI (((ishl 1 (I 77 18)) - 1) - 1)), none, none] [] (setF I 129 (((ishl 1 (I 77 18)) - 1).toNat) 0) L R K Q) : E sc 152 0 [some (aR (some 77)), none, none, none, none] [] I L R K Q :=
  e_iconst mb_152 dX12_findRow_0 cv_iconst_1 (e_aload_n mb_152 dX12_findRow_1 rfl (e_getv mb_152 dX12_findRow_2 mf_152.1 fs_49336 (Or.inl fk_12_18) (lk_77 hL) rfl (e_ishl mb_152 dX12_findRow_5 (e_iconst mb_152 dX12_findRow_6 cv_iconst_1 (e_isub mb_152 dX12_findRow_7 h.1 (e_istore_n (l1 := [some (aR (some 77)), some (aI ((ishl 1 (I 77 18)) - 1)), none, none, none]) mb_152 dX12_findRow_8 rfl (e_aload_n mb_152 dX12_findRow_9 rfl (e_getr mb_152 dX12_findRow_10 mf_152.1 fs_49323 fk_12_66 (lk_77 hL) (lr_77_66 hL) (e_iload_n mb_152 dX12_findRow_13 rfl (e_iconst mb_152 dX12_findRow_14 cv_iconst_0 (e_iastore mb_152 dX12_findRow_15 (lk_129 hL) (ll_129 hL) h.2.1 (e_iload_n mb_152 dX12_findRow_16 rfl (e_iconst mb_152 dX12_findRow_17 cv_iconst_1 (e_isub mb_152 dX12_findRow_18 h.2.2.1 (e_istore_n (l1 := [some (aR (some 77)), some (aI ((ishl 1 (I 77 18)) - 1)), some (aI (((ishl 1 (I 77 18)) - 1) - 1)), none, none]) mb_152 dX12_findRow_19 rfl h.2.2.2)))))))))))))))
theorem w_152_20 {sc : Nat × (Nat → Int)} {I : IH} {L : LH} {R : RH} {K : KH} {Q : AQ} {x2 : Int} {o1 o3 o4 : Option AV} (no1 : nL o1) (no3 : nL o3) (no4 : nL o4) (hL : Lay R K) (h : ((x2 < 0 → E sc 152 128 [some (aR (some 77)), o1, some (aI 0), some (aI 0), o4] [] I L R K Q) ∧ (0 ≤ x2 → (((0 : Int) ≤ x2 ∧ x2 < (256 : Int))) ∧ E sc 152 35 [some (aR (some 77)), o1, some (aI x2), some (aI 0), o4] [] (setF I 129 x2.toNat 1000000) L R K Q))) : E sc 152 20 [some (aR (some 77)), o1, some (aI x2), o3, o4] [] I L R K Q :=
  e_iload_n mb_152 dX12_findRow_20 rfl (e_if mb_152 dX12_findRow_21 rfl (fun q1 => e_iconst mb_152 dX12_findRow_124 cv_iconst_0 (e_istore_n (l1 := [some (aR (some 77)), o1, some (aI 0), o3, o4]) mb_152 dX12_findRow_125 (aset_nl no1 rfl rfl rfl) (e_iconst mb_152 dX12_findRow_126 cv_iconst_0 (e_istore_n (l1 := [some (aR (some 77)), o1, some (aI 0), some (aI 0), o4]) mb_152 dX12_findRow_127 rfl ((h.1 (cb_lt.1.mp q1))))))) (fun q1 => e_aload_n mb_152 dX12_findRow_24 rfl (e_getr mb_152 dX12_findRow_25 mf_152.1 fs_49323 fk_12_66 (lk_77 hL) (lr_77_66 hL) (e_iload_n mb_152 dX12_findRow_28 rfl (e_ldcw mb_152 dX12_findRow_29 (by rw [mf_152.1]; exact ls_49510) rfl (e_iastore mb_152 dX12_findRow_32 (lk_129 hL) (ll_129 hL) (h.2 (cb_lt.2.mp q1)).1 (e_iconst mb_152 dX12_findRow_33 cv_iconst_0 (e_istore_n (l1 := [some (aR (some 77)), o1, some (aI x2), some (aI 0), o4]) mb_152 dX12_findRow_34 rfl ((h.2 (cb_lt.2.mp q1)).2)))))))))
theorem w_152_35 {sc : Nat × (Nat → Int)} {I : IH} {L : LH} {R : RH} {K : KH} {Q : AQ} {x2 x3 : Int} {o1 o4 : Option AV} (no1 : nL o1) (no4 : nL o4) (hL : Lay R K) (h : (((I 77 18) ≤ x3 → ((-2147483648 : Int) ≤ x2 + (-1) ∧ x2 + (-1) < (2147483648 : Int)) ∧ E sc 152 20 [some (aR (some 77)), o1, some (aI (x2 + (-1))), some (aI x3), o4] [] I L R K Q) ∧ (x3 < (I 77 18) → (((0 ≤ x3 ∧ x3 < 8) ∧ (0 ≤ x2 ∧ x2 < 256) ∧ ∃ n, LsOK I n)) ∧ ((mayD I x2.toNat x3.toNat → (((0 : Int) ≤ (ior x2 (ishl 1 x3)) ∧ (ior x2 (ishl 1 x3)) < (256 : Int))) ∧ (((0 : Int) ≤ x3 ∧ x3 < (8 : Int))) ∧ ((LsOK I (I 77 18).toNat ∧ 0 ≤ x2 ∧ x2.toNat < 2 ^ (I 77 18).toNat)) ∧ (((0 : Int) ≤ x3 ∧ x3 < (8 : Int))) ∧ ((-2147483648 : Int) ≤ (timD I x2.toNat) + (I 115 x3.toNat) ∧ (timD I x2.toNat) + (I 115 x3.toNat) < (2147483648 : Int)) ∧ ((-2147483648 : Int) ≤ (I 116 x3.toNat) * ((timD I x2.toNat) + (I 115 x3.toNat)) ∧ (I 116 x3.toNat) * ((timD I x2.toNat) + (I 115 x3.toNat)) < (2147483648 : Int)) ∧ ((-2147483648 : Int) ≤ (I 129 ((ior x2 (ishl 1 x3)).toNat)) + ((I 116 x3.toNat) * ((timD I x2.toNat) + (I 115 x3.toNat))) ∧ (I 129 ((ior x2 (ishl 1 x3)).toNat)) + ((I 116 x3.toNat) * ((timD I x2.toNat) + (I 115 x3.toNat))) < (2147483648 : Int)) ∧ (((0 : Int) ≤ x2 ∧ x2 < (256 : Int))) ∧ (((I 129 x2.toNat) ≤ ((I 129 ((ior x2 (ishl 1 x3)).toNat)) + ((I 116 x3.toNat) * ((timD I x2.toNat) + (I 115 x3.toNat)))) → (((0 : Int) ≤ x2 ∧ x2 < (256 : Int))) ∧ (((0 : Int) ≤ x2 ∧ x2 < (256 : Int))) ∧ ((-2147483648 : Int) ≤ x3 + 1 ∧ x3 + 1 < (2147483648 : Int)) ∧ E sc 152 35 [some (aR (some 77)), o1, some (aI x2), some (aI (x3 + 1)), some (aI ((I 129 ((ior x2 (ishl 1 x3)).toNat)) + ((I 116 x3.toNat) * ((timD I x2.toNat) + (I 115 x3.toNat)))))] [] (setF I 129 x2.toNat (I 129 x2.toNat)) L R K Q) ∧ (((I 129 ((ior x2 (ishl 1 x3)).toNat)) + ((I 116 x3.toNat) * ((timD I x2.toNat) + (I 115 x3.toNat)))) < (I 129 x2.toNat) → (((0 : Int) ≤ x2 ∧ x2 < (256 : Int))) ∧ ((-2147483648 : Int) ≤ x3 + 1 ∧ x3 + 1 < (2147483648 : Int)) ∧ E sc 152 35 [some (aR (some 77)), o1, some (aI x2), some (aI (x3 + 1)), some (aI ((I 129 ((ior x2 (ishl 1 x3)).toNat)) + ((I 116 x3.toNat) * ((timD I x2.toNat) + (I 115 x3.toNat)))))] [] (setF I 129 x2.toNat ((I 129 ((ior x2 (ishl 1 x3)).toNat)) + ((I 116 x3.toNat) * ((timD I x2.toNat) + (I 115 x3.toNat))))) L R K Q))) ∧ (¬(mayD I x2.toNat x3.toNat) → ((-2147483648 : Int) ≤ x3 + 1 ∧ x3 + 1 < (2147483648 : Int)) ∧ E sc 152 35 [some (aR (some 77)), o1, some (aI x2), some (aI (x3 + 1)), o4] [] I L R K Q))))) : E sc 152 35 [some (aR (some 77)), o1, some (aI x2), some (aI x3), o4] [] I L R K Q :=
  e_iload_n mb_152 dX12_findRow_35 rfl (e_aload_n mb_152 dX12_findRow_36 rfl (e_getv mb_152 dX12_findRow_37 mf_152.1 fs_49336 (Or.inl fk_12_18) (lk_77 hL) rfl (e_icmp mb_152 dX12_findRow_40 rfl (fun q1 => e_iinc (l1 := [some (aR (some 77)), o1, some (aI (x2 + (-1))), some (aI x3), o4]) mb_152 dX12_findRow_118 rfl (h.1 (cb_ge.1.mp q1)).1 (aset_nl no1 rfl rfl rfl) (e_goto mb_152 dX12_findRow_121 rfl ((h.1 (cb_ge.1.mp q1)).2))) (fun q1 => e_aload_n mb_152 dX12_findRow_43 rfl (e_iload_n mb_152 dX12_findRow_44 rfl (e_iload_n mb_152 dX12_findRow_45 rfl (e_callV mb_152 dX12_findRow_46 mf_152 mf_150 cs_49511 rfl rfl rfl rfl (lk_77 hL) rfl (v_150 hL (h.2 (cb_ge.2.mp q1)).1 (show E _ _ _ _ (_ :: _) _ _ _ _ _ from e_ifb_eq mb_152 dX12_findRow_49 rfl ⟨fun q2 => e_aload_n mb_152 dX12_findRow_52 rfl (e_getr mb_152 dX12_findRow_53 mf_152.1 fs_49323 fk_12_66 (lk_77 hL) (lr_77_66 hL) (e_iload_n mb_152 dX12_findRow_56 rfl (e_iconst mb_152 dX12_findRow_57 cv_iconst_1 (e_iload_n mb_152 dX12_findRow_58 rfl (e_ishl mb_152 dX12_findRow_59 (e_ior mb_152 dX12_findRow_60 (e_ial mb_152 dX12_findRow_61 (lk_129 hL) (ll_129 hL) ((h.2 (cb_ge.2.mp q1)).2.1 q2).1 rfl (e_aload_n mb_152 dX12_findRow_62 rfl (e_getr mb_152 dX12_findRow_63 mf_152.1 fs_49281 fk_12_48 (lk_77 hL) (lr_77_48 hL) (e_iload_n mb_152 dX12_findRow_66 rfl (e_ial mb_152 dX12_findRow_67 (lk_116 hL) (ll_116 hL) ((h.2 (cb_ge.2.mp q1)).2.1 q2).2.1 rfl (e_aload_n mb_152 dX12_findRow_68 rfl (e_iload_n mb_152 dX12_findRow_69 rfl (e_callV mb_152 dX12_findRow_70 mf_152 mf_151 cs_49514 rfl rfl rfl rfl (lk_77 hL) rfl (v_151x hL ((h.2 (cb_ge.2.mp q1)).2.1 q2).2.2.1 (show E _ _ _ _ (_ :: _) _ _ _ _ _ from e_aload_n mb_152 dX12_findRow_73 rfl (e_getr mb_152 dX12_findRow_74 mf_152.1 fs_49278 fk_12_47 (lk_77 hL) (lr_77_47 hL) (e_iload_n mb_152 dX12_findRow_77 rfl (e_ial mb_152 dX12_findRow_78 (lk_115 hL) (ll_115 hL) ((h.2 (cb_ge.2.mp q1)).2.1 q2).2.2.2.1 rfl (e_iadd mb_152 dX12_findRow_79 ((h.2 (cb_ge.2.mp q1)).2.1 q2).2.2.2.2.1 (e_imul mb_152 dX12_findRow_80 ((h.2 (cb_ge.2.mp q1)).2.1 q2).2.2.2.2.2.1 (e_iadd mb_152 dX12_findRow_81 ((h.2 (cb_ge.2.mp q1)).2.1 q2).2.2.2.2.2.2.1 (e_istore (l1 := [some (aR (some 77)), o1, some (aI x2), some (aI x3), some (aI ((I 129 ((ior x2 (ishl 1 x3)).toNat)) + ((I 116 x3.toNat) * ((timD I x2.toNat) + (I 115 x3.toNat)))))]) mb_152 dX12_findRow_82 rfl (e_aload_n mb_152 dX12_findRow_84 rfl (e_getr mb_152 dX12_findRow_85 mf_152.1 fs_49323 fk_12_66 (lk_77 hL) (lr_77_66 hL) (e_iload_n mb_152 dX12_findRow_88 rfl (e_iload mb_152 dX12_findRow_89 rfl (e_aload_n mb_152 dX12_findRow_91 rfl (e_getr mb_152 dX12_findRow_92 mf_152.1 fs_49323 fk_12_66 (lk_77 hL) (lr_77_66 hL) (e_iload_n mb_152 dX12_findRow_95 rfl (e_ial mb_152 dX12_findRow_96 (lk_129 hL) (ll_129 hL) ((h.2 (cb_ge.2.mp q1)).2.1 q2).2.2.2.2.2.2.2.1 rfl (e_icmp mb_152 dX12_findRow_97 rfl (fun q3 => e_aload_n mb_152 dX12_findRow_105 rfl (e_getr mb_152 dX12_findRow_106 mf_152.1 fs_49323 fk_12_66 (lk_77 hL) (lr_77_66 hL) (e_iload_n mb_152 dX12_findRow_109 rfl (e_ial mb_152 dX12_findRow_110 (lk_129 hL) (ll_129 hL) (((h.2 (cb_ge.2.mp q1)).2.1 q2).2.2.2.2.2.2.2.2.1 (cb_ge.1.mp q3)).1 rfl (e_iastore mb_152 dX12_findRow_111 (lk_129 hL) (ll_129 hL) (((h.2 (cb_ge.2.mp q1)).2.1 q2).2.2.2.2.2.2.2.2.1 (cb_ge.1.mp q3)).2.1 (e_iinc (l1 := [some (aR (some 77)), o1, some (aI x2), some (aI (x3 + 1)), some (aI ((I 129 ((ior x2 (ishl 1 x3)).toNat)) + ((I 116 x3.toNat) * ((timD I x2.toNat) + (I 115 x3.toNat)))))]) mb_152 dX12_findRow_112 rfl (((h.2 (cb_ge.2.mp q1)).2.1 q2).2.2.2.2.2.2.2.2.1 (cb_ge.1.mp q3)).2.2.1 rfl (e_goto mb_152 dX12_findRow_115 rfl ((((h.2 (cb_ge.2.mp q1)).2.1 q2).2.2.2.2.2.2.2.2.1 (cb_ge.1.mp q3)).2.2.2)))))))) (fun q3 => e_iload mb_152 dX12_findRow_100 rfl (e_goto mb_152 dX12_findRow_102 rfl (e_iastore mb_152 dX12_findRow_111 (lk_129 hL) (ll_129 hL) (((h.2 (cb_ge.2.mp q1)).2.1 q2).2.2.2.2.2.2.2.2.2 (cb_ge.2.mp q3)).1 (e_iinc (l1 := [some (aR (some 77)), o1, some (aI x2), some (aI (x3 + 1)), some (aI ((I 129 ((ior x2 (ishl 1 x3)).toNat)) + ((I 116 x3.toNat) * ((timD I x2.toNat) + (I 115 x3.toNat)))))]) mb_152 dX12_findRow_112 rfl (((h.2 (cb_ge.2.mp q1)).2.1 q2).2.2.2.2.2.2.2.2.2 (cb_ge.2.mp q3)).2.1 rfl (e_goto mb_152 dX12_findRow_115 rfl ((((h.2 (cb_ge.2.mp q1)).2.1 q2).2.2.2.2.2.2.2.2.2 (cb_ge.2.mp q3)).2.2)))))))))))))))))))))))))))))))))))))), fun q2 => e_iinc (l1 := [some (aR (some 77)), o1, some (aI x2), some (aI (x3 + 1)), o4]) mb_152 dX12_findRow_112 rfl ((h.2 (cb_ge.2.mp q1)).2.2 q2).1 rfl (e_goto mb_152 dX12_findRow_115 rfl (((h.2 (cb_ge.2.mp q1)).2.2 q2).2))⟩)))))))))
theorem w_152_128 {sc : Nat × (Nat → Int)} {I : IH} {L : LH} {R : RH} {K : KH} {Q : AQ} {x2 x3 : Int} {o1 o4 : Option AV} (no1 : nL o1) (no4 : nL o4) (hL : Lay R K) (h : (((I 77 18) ≤ x3 → Q none I L R K) ∧ (x3 < (I 77 18) → E sc 152 139 [some (aR (some 77)), o1, some (aI x2), some (aI x3), some (aI 0)] [] I L R K Q))) : E sc 152 128 [some (aR (some 77)), o1, some (aI x2), some (aI x3), o4] [] I L R K Q :=
  e_iload_n mb_152 dX12_findRow_128 rfl (e_aload_n mb_152 dX12_findRow_129 rfl (e_getv mb_152 dX12_findRow_130 mf_152.1 fs_49336 (Or.inl fk_12_18) (lk_77 hL) rfl (e_icmp mb_152 dX12_findRow_133 rfl (fun q1 => e_return mb_152 dX12_findRow_218 rv_152 (h.1 (cb_ge.1.mp q1))) (fun q1 => e_iconst mb_152 dX12_findRow_136 cv_iconst_0 (e_istore (l1 := [some (aR (some 77)), o1, some (aI x2), some (aI x3), some (aI 0)]) mb_152 dX12_findRow_137 rfl ((h.2 (cb_ge.2.mp q1))))))))
theorem w_152_139 {sc : Nat × (Nat → Int)} {I : IH} {L : LH} {R : RH} {K : KH} {Q : AQ} {x2 x3 x4 : Int} {o1 : Option AV} (no1 : nL o1) (hL : Lay R K) (h : (((0 ≤ x4 ∧ x4 < 8) ∧ (0 ≤ x2 ∧ x2 < 256) ∧ ∃ n, LsOK I n)) ∧ ((mayD I x2.toNat x4.toNat → (((0 : Int) ≤ (ior x2 (ishl 1 x4)) ∧ (ior x2 (ishl 1 x4)) < (256 : Int))) ∧ (((0 : Int) ≤ x4 ∧ x4 < (8 : Int))) ∧ ((LsOK I (I 77 18).toNat ∧ 0 ≤ x2 ∧ x2.toNat < 2 ^ (I 77 18).toNat)) ∧ (((0 : Int) ≤ x4 ∧ x4 < (8 : Int))) ∧ ((-2147483648 : Int) ≤ (timD I x2.toNat) + (I 115 x4.toNat) ∧ (timD I x2.toNat) + (I 115 x4.toNat) < (2147483648 : Int)) ∧ ((-2147483648 : Int) ≤ (I 116 x4.toNat) * ((timD I x2.toNat) + (I 115 x4.toNat)) ∧ (I 116 x4.toNat) * ((timD I x2.toNat) + (I 115 x4.toNat)) < (2147483648 : Int)) ∧ ((-2147483648 : Int) ≤ (I 129 ((ior x2 (ishl 1 x4)).toNat)) + ((I 116 x4.toNat) * ((timD I x2.toNat) + (I 115 x4.toNat))) ∧ (I 129 ((ior x2 (ishl 1 x4)).toNat)) + ((I 116 x4.toNat) * ((timD I x2.toNat) + (I 115 x4.toNat))) < (2147483648 : Int)) ∧ (((0 : Int) ≤ x2 ∧ x2 < (256 : Int))) ∧ ((((I 129 ((ior x2 (ishl 1 x4)).toNat)) + ((I 116 x4.toNat) * ((timD I x2.toNat) + (I 115 x4.toNat)))) = (I 129 x2.toNat) → (((0 : Int) ≤ x3 ∧ x3 < (8 : Int))) ∧ ((-2147483648 : Int) ≤ x3 + 1 ∧ x3 + 1 < (2147483648 : Int)) ∧ E sc 152 128 [some (aR (some 77)), o1, some (aI (ior x2 (ishl 1 x4))), some (aI (x3 + 1)), some (aI x4)] [] (setF I 130 x3.toNat x4) L R K Q) ∧ (((I 129 ((ior x2 (ishl 1 x4)).toNat)) + ((I 116 x4.toNat) * ((timD I x2.toNat) + (I 115 x4.toNat)))) ≠ (I 129 x2.toNat) → ((-2147483648 : Int) ≤ x4 + 1 ∧ x4 + 1 < (2147483648 : Int)) ∧ E sc 152 139 [some (aR (some 77)), o1, some (aI x2), some (aI x3), some (aI (x4 + 1))] [] I L R K Q))) ∧ (¬(mayD I x2.toNat x4.toNat) → ((-2147483648 : Int) ≤ x4 + 1 ∧ x4 + 1 < (2147483648 : Int)) ∧ E sc 152 139 [some (aR (some 77)), o1, some (aI x2), some (aI x3), some (aI (x4 + 1))] [] I L R K Q))) : E sc 152 139 [some (aR (some 77)), o1, some (aI x2), some (aI x3), some (aI x4)] [] I L R K Q :=
  e_aload_n mb_152 dX12_findRow_139 rfl (e_iload_n mb_152 dX12_findRow_140 rfl (e_iload mb_152 dX12_findRow_141 rfl (e_callV mb_152 dX12_findRow_143 mf_152 mf_150 cs_49511 rfl rfl rfl rfl (lk_77 hL) rfl (v_150 hL h.1 (show E _ _ _ _ (_ :: _) _ _ _ _ _ from e_ifb_eq mb_152 dX12_findRow_146 rfl ⟨fun q1 => e_aload_n mb_152 dX12_findRow_149 rfl (e_getr mb_152 dX12_findRow_150 mf_152.1 fs_49323 fk_12_66 (lk_77 hL) (lr_77_66 hL) (e_iload_n mb_152 dX12_findRow_153 rfl (e_iconst mb_152 dX12_findRow_154 cv_iconst_1 (e_iload mb_152 dX12_findRow_155 rfl (e_ishl mb_152 dX12_findRow_157 (e_ior mb_152 dX12_findRow_158 (e_ial mb_152 dX12_findRow_159 (lk_129 hL) (ll_129 hL) (h.2.1 q1).1 rfl (e_aload_n mb_152 dX12_findRow_160 rfl (e_getr mb_152 dX12_findRow_161 mf_152.1 fs_49281 fk_12_48 (lk_77 hL) (lr_77_48 hL) (e_iload mb_152 dX12_findRow_164 rfl (e_ial mb_152 dX12_findRow_166 (lk_116 hL) (ll_116 hL) (h.2.1 q1).2.1 rfl (e_aload_n mb_152 dX12_findRow_167 rfl (e_iload_n mb_152 dX12_findRow_168 rfl (e_callV mb_152 dX12_findRow_169 mf_152 mf_151 cs_49514 rfl rfl rfl rfl (lk_77 hL) rfl (v_151x hL (h.2.1 q1).2.2.1 (show E _ _ _ _ (_ :: _) _ _ _ _ _ from e_aload_n mb_152 dX12_findRow_172 rfl (e_getr mb_152 dX12_findRow_173 mf_152.1 fs_49278 fk_12_47 (lk_77 hL) (lr_77_47 hL) (e_iload mb_152 dX12_findRow_176 rfl (e_ial mb_152 dX12_findRow_178 (lk_115 hL) (ll_115 hL) (h.2.1 q1).2.2.2.1 rfl (e_iadd mb_152 dX12_findRow_179 (h.2.1 q1).2.2.2.2.1 (e_imul mb_152 dX12_findRow_180 (h.2.1 q1).2.2.2.2.2.1 (e_iadd mb_152 dX12_findRow_181 (h.2.1 q1).2.2.2.2.2.2.1 (e_aload_n mb_152 dX12_findRow_182 rfl (e_getr mb_152 dX12_findRow_183 mf_152.1 fs_49323 fk_12_66 (lk_77 hL) (lr_77_66 hL) (e_iload_n mb_152 dX12_findRow_186 rfl (e_ial mb_152 dX12_findRow_187 (lk_129 hL) (ll_129 hL) (h.2.1 q1).2.2.2.2.2.2.2.1 rfl (e_icmp mb_152 dX12_findRow_188 rfl (fun q2 => e_aload_n mb_152 dX12_findRow_197 rfl (e_getr mb_152 dX12_findRow_198 mf_152.1 fs_49326 fk_12_67 (lk_77 hL) (lr_77_67 hL) (e_iload_n mb_152 dX12_findRow_201 rfl (e_iload mb_152 dX12_findRow_202 rfl (e_iastore mb_152 dX12_findRow_204 (lk_130 hL) (ll_130 hL) ((h.2.1 q1).2.2.2.2.2.2.2.2.1 (cb_eq.1.mp q2)).1 (e_iload_n mb_152 dX12_findRow_205 rfl (e_iconst mb_152 dX12_findRow_206 cv_iconst_1 (e_iload mb_152 dX12_findRow_207 rfl (e_ishl mb_152 dX12_findRow_209 (e_ior mb_152 dX12_findRow_210 (e_istore_n (l1 := [some (aR (some 77)), o1, some (aI (ior x2 (ishl 1 x4))), some (aI x3), some (aI x4)]) mb_152 dX12_findRow_211 (aset_nl no1 rfl rfl rfl) (e_iinc (l1 := [some (aR (some 77)), o1, some (aI (ior x2 (ishl 1 x4))), some (aI (x3 + 1)), some (aI x4)]) mb_152 dX12_findRow_212 rfl ((h.2.1 q1).2.2.2.2.2.2.2.2.1 (cb_eq.1.mp q2)).2.1 rfl (e_goto mb_152 dX12_findRow_215 rfl (((h.2.1 q1).2.2.2.2.2.2.2.2.1 (cb_eq.1.mp q2)).2.2)))))))))))))) (fun q2 => e_iinc (l1 := [some (aR (some 77)), o1, some (aI x2), some (aI x3), some (aI (x4 + 1))]) mb_152 dX12_findRow_191 rfl ((h.2.1 q1).2.2.2.2.2.2.2.2.2 (cb_eq.2.mp q2)).1 rfl (e_goto mb_152 dX12_findRow_194 rfl (((h.2.1 q1).2.2.2.2.2.2.2.2.2 (cb_eq.2.mp q2)).2)))))))))))))))))))))))))))))), fun q1 => e_iinc (l1 := [some (aR (some 77)), o1, some (aI x2), some (aI x3), some (aI (x4 + 1))]) mb_152 dX12_findRow_191 rfl (h.2.2 q1).1 rfl (e_goto mb_152 dX12_findRow_194 rfl ((h.2.2 q1).2))⟩)))))
theorem candD_r {I : IH} {A : Nat → Int} {s d : Nat} : A (s + 2 ^ d) + I 116 d * (timD I s + I 115 d) = candD I A s d := by
  unfold candD
  rw [Int.mul_comm, Int.add_comm]
theorem l152a {sc : Nat × (Nat → Int)} {I : IH} {L : LH} {R : RH} {K : KH} {Q : AQ} {n m : Nat} {g : Nat → Int} {o1 : Option AV} (hL : Lay R K) (n1 : nL o1) (hl : LsOK I n) (hs : m < 2 ^ n - 1) (hf : TabF I n 1000000 (m + 1) g) (h : ∀ o3 o4 x2, nL o3 → nL o4 → x2 = (m : Int) - 1 → E sc 152 20 [some (aR (some 77)), o1, some (aI x2), o3, o4] [] (tabF I 129 (updF g m (minD I g m 1000000 n))) L R K Q) {o4 : Option AV} (n4 : nL o4) : E sc 152 35 [some (aR (some 77)), o1, some (aI (m : Int)), some (aI 0), o4] [] (tabF I 129 (updF g m 1000000)) L R K Q := by
  have h9 := hl.1
  have hN := tb_256 n h9
  have hn := hl.2.2.1
  have inner : (fun k : Nat => ∀ (v x3 : Int) (o4 : Option AV), nL o4 → v = minD I g m 1000000 k → x3 = (k : Int) → E sc 152 35 [some (aR (some 77)), o1, some (aI (m : Int)), some (aI x3), o4] [] (tabF I 129 (updF g m v)) L R K Q) 0 := by
    refine loop_up (C := fun k : Nat => ∀ (v x3 : Int) (o4 : Option AV), nL o4 → v = minD I g m 1000000 k → x3 = (k : Int) → E sc 152 35 [some (aR (some 77)), o1, some (aI (m : Int)), some (aI x3), o4] [] (tabF I 129 (updF g m v)) L R K Q) n ?_ ?_
    · intro k hk hc v x3 o4 n4 hv hx
      subst hx
      by_cases q : mayD I m k
      · have j1 := may_in h9 hs hk q
        have j2 := tab_b2 hl (by omega) hf (s := m + 2 ^ k) (by omega) (by omega)
        have j3 := cand_b (A := g) (s := m) hl (show k < 8 by omega)
        have j4 := tb_or m (by omega) k (by omega) q.1
        have j5 := timD_b (s := m) hl
        have j6 := hl.2.1 k (by omega)
        have em : (tabF I 129 (updF g m v)) 129 m = v := by
          show (if (129 : Nat) = 129 then (if m = m then v else g m) else _) = v
          rw [if_pos rfl, if_pos rfl]
        have et : (tabF I 129 (updF g m v)) 129 (m + 2 ^ k) = g (m + 2 ^ k) := by
          show (if (129 : Nat) = 129 then (if m + 2 ^ k = m then v else g (m + 2 ^ k)) else _) = g (m + 2 ^ k)
          rw [if_pos rfl, if_neg (by omega)]
        have ec : (tabF I 129 (updF g m v)) 129 (m + 2 ^ k) + (tabF I 129 (updF g m v)) 116 k * (timD (tabF I 129 (updF g m v)) m + (tabF I 129 (updF g m v)) 115 k) = candD I g m k := by
          rw [et]
          exact candD_r
        have hm := minD_le (I := I) (A := g) (s := m) (z := 1000000) k
        have ev : minD I g m 1000000 (k + 1) = min v (candD I g m k) := by rw [minD, if_pos q, hv]
        have a1 : (tabF I 129 (updF g m v)) 116 k * (timD (tabF I 129 (updF g m v)) m + (tabF I 129 (updF g m v)) 115 k) = (timD I m + I 115 k) * I 116 k := Int.mul_comm _ _
        have a2 : timD (tabF I 129 (updF g m v)) m + (tabF I 129 (updF g m v)) 115 k = timD I m + I 115 k := rfl
        have a3 : (tabF I 129 (updF g m v)) 77 18 = I 77 18 := rfl
        have a4 : LsOK (tabF I 129 (updF g m v)) n := hl
        refine w_152_35 n1 n4 hL ?_
        simp only [Int.toNat_natCast]
        rw [j4, Int.toNat_natCast, ec, em, a1, a2, a3]
        refine ⟨fun q1 => by omega, fun q1 => ⟨⟨by omega, by omega, n, hl⟩, fun q2 => ⟨by omega, by omega, ⟨by rw [hn, Int.toNat_natCast]; exact a4, by omega, by rw [hn, Int.toNat_natCast]; omega⟩, by omega, by omega, by omega, by omega, by omega, fun q3 => ⟨by omega, by omega, by omega, ?_⟩, fun q3 => ⟨by omega, by omega, ?_⟩⟩, fun q2 => absurd q q2⟩⟩
        · rw [tabF_set]
          have e : updF (updF g m v) m v = updF g m v := by
            funext t
            unfold updF
            by_cases qt : t = m
            · rw [if_pos qt, if_pos qt]
            · rw [if_neg qt]
          rw [e]
          exact hc _ _ _ nl_i (by rw [ev]; omega) (by omega)
        · rw [tabF_set]
          have e : updF (updF g m v) m (candD I g m k) = updF g m (candD I g m k) := by
            funext t
            unfold updF
            by_cases qt : t = m
            · rw [if_pos qt, if_pos qt]
            · rw [if_neg qt, if_neg qt, if_neg qt]
          rw [e]
          exact hc _ _ _ nl_i (by rw [ev]; omega) (by omega)
      · have a3 : (tabF I 129 (updF g m v)) 77 18 = I 77 18 := rfl
        refine w_152_35 n1 n4 hL ?_
        simp only [Int.toNat_natCast]
        refine ⟨fun q1 => by omega, fun q1 => ⟨⟨by omega, by omega, n, hl⟩, fun q2 => absurd q2 q, fun q2 => ⟨by omega, hc _ _ _ n4 (by rw [minD, if_neg q, hv]) (by omega)⟩⟩⟩
    · intro v x3 o4 n4 hv hx
      subst hx
      subst hv
      have a3 : (tabF I 129 (updF g m (minD I g m 1000000 n))) 77 18 = I 77 18 := rfl
      refine w_152_35 n1 n4 hL ⟨fun q1 => ⟨by omega, h _ _ _ nl_i n4 (by omega)⟩, fun q1 => by omega⟩
  exact inner _ _ _ n4 rfl rfl
theorem l152b {sc : Nat × (Nat → Int)} {I : IH} {L : LH} {R : RH} {K : KH} {Q : AQ} {n i : Nat} {g r : Nat → Int} {o1 : Option AV} (hL : Lay R K) (n1 : nL o1) (hl : LsOK I n) (hi : i < n) (hf : TabF I n 1000000 0 g) (h : E sc 152 128 [some (aR (some 77)), o1, some (aI ((rowS I n g (i + 1) : Nat) : Int)), some (aI ((i : Int) + 1)), some (aI ((nxD I n g (rowS I n g i) : Nat) : Int))] [] (tabF (tabF I 129 g) 130 (updF r i ((nxD I n g (rowS I n g i) : Nat) : Int))) L R K Q) : E sc 152 139 [some (aR (some 77)), o1, some (aI ((rowS I n g i : Nat) : Int)), some (aI (i : Int)), some (aI 0)] [] (tabF (tabF I 129 g) 130 r) L R K Q := by
  have h9 := hl.1
  have hN := tb_256 n h9
  have hn := hl.2.2.1
  have r1 := (rowS_p hl (by omega) hf i (by omega)).2.2 hi
  obtain ⟨p1, ⟨p2, p3⟩, p4⟩ := nxD_p hl (by omega) hf r1
  have a3 : (tabF (tabF I 129 g) 130 r) 77 18 = I 77 18 := rfl
  have a4 : LsOK (tabF (tabF I 129 g) 130 r) n := hl
  have es : rowS I n g (i + 1) = rowS I n g i + 2 ^ nxD I n g (rowS I n g i) := rfl
  rw [es] at h
  generalize rowS I n g i = s at *
  generalize hd : nxD I n g s = x at *
  have step : ∀ k : Nat, k < n → mayD I s k → (E sc 152 128 [some (aR (some 77)), o1, some (aI ((s + 2 ^ k : Nat) : Int)), some (aI ((i : Int) + 1)), some (aI (k : Int))] [] (tabF (tabF I 129 g) 130 (updF r i (k : Int))) L R K Q ∧ candD I g s k = g s) ∨ (E sc 152 139 [some (aR (some 77)), o1, some (aI (s : Int)), some (aI (i : Int)), some (aI ((k : Int) + 1))] [] (tabF (tabF I 129 g) 130 r) L R K Q ∧ candD I g s k ≠ g s) → E sc 152 139 [some (aR (some 77)), o1, some (aI (s : Int)), some (aI (i : Int)), some (aI (k : Int))] [] (tabF (tabF I 129 g) 130 r) L R K Q := by
    intro k hk q hgo
    have j1 := may_in h9 r1 hk q
    have j2 := tab_b2 hl (by omega) hf (s := s + 2 ^ k) (by omega) (by omega)
    have j3 := cand_b (A := g) (s := s) hl (show k < 8 by omega)
    have j4 := tb_or s (by omega) k (by omega) q.1
    have j5 := timD_b (s := s) hl
    have j6 := hl.2.1 k (by omega)
    have et : (tabF (tabF I 129 g) 130 r) 129 (s + 2 ^ k) = g (s + 2 ^ k) := rfl
    have em : (tabF (tabF I 129 g) 130 r) 129 s = g s := rfl
    have ec : (tabF (tabF I 129 g) 130 r) 129 (s + 2 ^ k) + (tabF (tabF I 129 g) 130 r) 116 k * (timD (tabF (tabF I 129 g) 130 r) s + (tabF (tabF I 129 g) 130 r) 115 k) = candD I g s k := by
      rw [et]
      exact candD_r
    have a1 : (tabF (tabF I 129 g) 130 r) 116 k * (timD (tabF (tabF I 129 g) 130 r) s + (tabF (tabF I 129 g) 130 r) 115 k) = (timD I s + I 115 k) * I 116 k := Int.mul_comm _ _
    have a2 : timD (tabF (tabF I 129 g) 130 r) s + (tabF (tabF I 129 g) 130 r) 115 k = timD I s + I 115 k := rfl
    refine w_152_139 n1 hL ?_
    simp only [Int.toNat_natCast]
    rw [j4, Int.toNat_natCast, ec, em, a1, a2, a3]
    refine ⟨⟨by omega, by omega, n, hl⟩, fun q2 => ⟨by omega, by omega, ⟨by rw [hn, Int.toNat_natCast]; exact a4, by omega, by rw [hn, Int.toNat_natCast]; omega⟩, by omega, by omega, by omega, by omega, by omega, fun q3 => ⟨by omega, by omega, ?_⟩, fun q3 => ⟨by omega, ?_⟩⟩, fun q2 => absurd q q2⟩
    · rw [tabF_set]
      rcases hgo with ⟨h1, _⟩ | ⟨_, h2⟩
      · exact h1
      · exact absurd q3 h2
    · rcases hgo with ⟨_, h2⟩ | ⟨h1, _⟩
      · exact absurd h2 q3
      · exact h1
  have key : (fun k : Nat => E sc 152 139 [some (aR (some 77)), o1, some (aI (s : Int)), some (aI (i : Int)), some (aI (k : Int))] [] (tabF (tabF I 129 g) 130 r) L R K Q) 0 := by
    refine loop_up (C := fun k : Nat => E sc 152 139 [some (aR (some 77)), o1, some (aI (s : Int)), some (aI (i : Int)), some (aI (k : Int))] [] (tabF (tabF I 129 g) 130 r) L R K Q) x ?_ ?_
    · intro k hk hc
      by_cases q : mayD I s k
      · exact step k (by omega) q (.inr ⟨hc, fun q2 => p4 k hk ⟨q, q2⟩⟩)
      · refine w_152_139 n1 hL ?_
        simp only [Int.toNat_natCast]
        exact ⟨⟨by omega, by omega, n, hl⟩, fun q2 => absurd q2 q, fun q2 => ⟨by omega, hc⟩⟩
    · exact step x p1 p2 (.inl ⟨h, p3⟩)
  exact key
theorem v_152 {sc : Nat × (Nat → Int)} {I : IH} {L : LH} {R : RH} {K : KH} {Q : AQ} (hL : Lay R K) (hp : LsOK I (I 77 18).toNat ∧ 1 ≤ I 77 18) (h : ∀ g r, TabF I (I 77 18).toNat 1000000 0 g → (∀ i, i < (I 77 18).toNat → r i = ((nxD I (I 77 18).toNat g (rowS I (I 77 18).toNat g i) : Nat) : Int)) → Q none (tabF (tabF I 129 g) 130 r) L R K) : E sc 152 0 [some (aR (some 77)), none, none, none, none] [] I L R K Q := by
  obtain ⟨hl, h0⟩ := hp
  obtain ⟨n, hn⟩ : ∃ n : Nat, I 77 18 = (n : Int) := ⟨(I 77 18).toNat, by omega⟩
  rw [hn, Int.toNat_natCast] at h hl
  have h9 := hl.1
  have hN := tb_256 n h9
  have rows : ∀ g o1 o4, nL o1 → nL o4 → TabF I n 1000000 0 g → E sc 152 128 [some (aR (some 77)), o1, some (aI 0), some (aI 0), o4] [] (tabF I 129 g) L R K Q := by
    intro g o1 o4 n1 n4 hf
    have key : (fun i : Nat => ∀ (r : Nat → Int) (o4 : Option AV) (x2 x3 : Int), nL o4 → x2 = ((rowS I n g i : Nat) : Int) → x3 = (i : Int) → (∀ t, t < i → r t = ((nxD I n g (rowS I n g t) : Nat) : Int)) → E sc 152 128 [some (aR (some 77)), o1, some (aI x2), some (aI x3), o4] [] (tabF (tabF I 129 g) 130 r) L R K Q) 0 := by
      refine loop_up (C := fun i : Nat => ∀ (r : Nat → Int) (o4 : Option AV) (x2 x3 : Int), nL o4 → x2 = ((rowS I n g i : Nat) : Int) → x3 = (i : Int) → (∀ t, t < i → r t = ((nxD I n g (rowS I n g t) : Nat) : Int)) → E sc 152 128 [some (aR (some 77)), o1, some (aI x2), some (aI x3), o4] [] (tabF (tabF I 129 g) 130 r) L R K Q) n ?_ ?_
      · intro i hi hc r o4 x2 x3 n4 h2 h3 hr
        subst h2; subst h3
        have a3 : (tabF (tabF I 129 g) 130 r) 77 18 = I 77 18 := rfl
        refine w_152_128 n1 n4 hL ⟨fun q1 => by omega, fun q1 => l152b hL n1 hl hi hf ?_⟩
        refine hc _ _ _ _ nl_i rfl (by omega) (fun t ht => ?_)
        unfold updF
        by_cases q : t = i
        · rw [if_pos q, q]
        · rw [if_neg q]; exact hr t (by omega)
      · intro r o4 x2 x3 n4 h2 h3 hr
        subst h2; subst h3
        have a3 : (tabF (tabF I 129 g) 130 r) 77 18 = I 77 18 := rfl
        exact w_152_128 n1 n4 hL ⟨fun q1 => h g r hf hr, fun q1 => by omega⟩
    have e : tabF I 129 g = tabF (tabF I 129 g) 130 (fun j => (tabF I 129 g) 130 j) := tabF_id.symm
    rw [e]
    exact key _ _ _ _ n4 rfl rfl (fun t ht => by omega)
  have key : ∀ m, m ≤ 2 ^ n - 1 → ∀ g o1 o3 o4 x2, nL o1 → nL o3 → nL o4 → TabF I n 1000000 m g → x2 = (m : Int) - 1 → E sc 152 20 [some (aR (some 77)), o1, some (aI x2), o3, o4] [] (tabF I 129 g) L R K Q := by
    intro m
    induction m with
    | zero =>
      intro hm g o1 o3 o4 x2 n1 n3 n4 hf hx
      exact w_152_20 n1 n3 n4 hL ⟨fun q1 => rows g o1 o4 n1 n4 hf, fun q1 => by omega⟩
    | succ m ih =>
      intro hm g o1 o3 o4 x2 n1 n3 n4 hf hx
      have hx : x2 = (m : Int) := by omega
      subst hx
      have hs : m < 2 ^ n - 1 := by omega
      refine w_152_20 n1 n3 n4 hL ⟨fun q1 => by omega, fun q1 => ⟨by omega, ?_⟩⟩
      rw [tabF_set, Int.toNat_natCast]
      exact l152a hL n1 hl hs hf (fun o3 o4 x2 n3 n4 hx => ih (by omega) _ _ _ _ _ n1 n3 n4 (hf.upd hs rfl) hx) n4
  refine w_152_0 hL ?_
  rw [hn, tb_shl n h9]
  refine ⟨by omega, by omega, by omega, ?_⟩
  have e0 : setF I 129 (((2 ^ n : Nat) : Int) - 1).toNat 0 = tabF I 129 (updF (fun j => I 129 j) (2 ^ n - 1) 0) := by
    rw [← tabF_set, tabF_id, show (((2 ^ n : Nat) : Int) - 1).toNat = 2 ^ n - 1 by omega]
  rw [e0]
  exact key (2 ^ n - 1) (Nat.le_refl _) _ _ _ _ _ nl_i nl_n nl_n ⟨by unfold updF; rw [if_pos rfl], fun s h1 h2 => by omega⟩ (by omega)
theorem ls_ok {N : Nat} {I : IH} {L : LH} {R : RH} {K : KH} (hI : Inv N I L R K) : LsOK I (I 77 18).toNat := by
  have hD := iD hI
  unfold InvD at hD
  have hl := iL hI
  have d2 := hD.2.1
  have d3 := hD.2.2.1
  refine ⟨by omega, fun j hj => ?_, by omega, hl.2⟩
  have := hl.1 j hj
  omega
theorem inv_tab {N : Nat} {I I1 : IH} {L : LH} {R : RH} {K : KH} (hI : Inv N I L R K) (h : ∀ a j, a ≠ 61 → a ≠ 129 → a ≠ 130 → I1 a j = I a j) : Inv (N + 1) I1 L R K :=
  inv_up (inv_sc hI (fun a j q => h a j (fun e => q (by unfold Sc; omega)) (fun e => q (by unfold Sc; omega)) (fun e => q (by unfold Sc; omega))) (fun _ _ _ _ => rfl))
theorem tab3 {I : IH} {f g r : Nat → Int} (a j : Nat) (h1 : a ≠ 61) (h2 : a ≠ 129) (h3 : a ≠ 130) : (tabF (tabF (tabF I 61 f) 129 g) 130 r) a j = I a j := by
  unfold tabF
  rw [if_neg h3, if_neg h2, if_neg h1]
set_option maxRecDepth 8000 in
theorem pr_42 {sc : Nat × (Nat → Int)} {I : IH} {L : LH} {R : RH} {K : KH} {Q : Option AV → AQ} (hL : Lay R K) (h : (((I 14 8) ≠ 0 → ((LsOK I (I 14 8).toNat ∧ 1 ≤ (I 14 8))) ∧ (∀ (f1 : Nat → Int), (TabF I (I 14 8).toNat 1000000 0 f1) → ((((tabF I 61 f1) 77 18) ≠ 0 → ((LsOK (tabF I 61 f1) ((tabF I 61 f1) 77 18).toNat ∧ 1 ≤ (tabF I 61 f1) 77 18)) ∧ (∀ (g3 : Nat → Int), ∀ (r4 : Nat → Int), (TabF (tabF I 61 f1) ((tabF I 61 f1) 77 18).toNat 1000000 0 g3) → (∀ i, i < ((tabF I 61 f1) 77 18).toNat → r4 i = ((nxD (tabF I 61 f1) ((tabF I 61 f1) 77 18).toNat g3 (rowS (tabF I 61 f1) ((tabF I 61 f1) 77 18).toNat g3 i) : Nat) : Int)) → Q (some (aI (f1 0))) (some (aI ((tabF (tabF (tabF I 61 f1) 129 g3) 130 r4) 129 0))) (tabF (tabF (tabF I 61 f1) 129 g3) 130 r4) L R K)) ∧ (((tabF I 61 f1) 77 18) = 0 → Q (some (aI (f1 0))) (some (aI (-1))) (tabF I 61 f1) L R K)))) ∧ ((I 14 8) = 0 → (((I 77 18) ≠ 0 → ((LsOK I (I 77 18).toNat ∧ 1 ≤ I 77 18)) ∧ (∀ (g7 : Nat → Int), ∀ (r8 : Nat → Int), (TabF I (I 77 18).toNat 1000000 0 g7) → (∀ i, i < (I 77 18).toNat → r8 i = ((nxD I (I 77 18).toNat g7 (rowS I (I 77 18).toNat g7 i) : Nat) : Int)) → Q (some (aI (-1))) (some (aI ((tabF (tabF I 129 g7) 130 r8) 129 0))) (tabF (tabF I 129 g7) 130 r8) L R K)) ∧ ((I 77 18) = 0 → Q (some (aI (-1))) (some (aI (-1))) I L R K))))) : E sc 42 0 [some (aR (some 0))] [] I L R K (fun rv I1 L1 R1 K1 => E sc 153 0 [some (aR (some 77))] [] I1 L1 R1 K1 (Q rv)) :=
  e_aload_n mb_42 dX11_waits_0 rfl (e_getr mb_42 dX11_waits_1 mf_42.1 fs_45081 fk_11_2 (lk_0 hL) (lr_0_2 hL) (e_getv mb_42 dX11_waits_4 mf_42.1 fs_45458 (Or.inl fk_1_8) (lk_14 hL) rfl (e_if mb_42 dX11_waits_7 rfl (fun q1 => e_aload_n mb_42 dX11_waits_14 rfl (e_getr mb_42 dX11_waits_15 mf_42.1 fs_45120 fk_11_7 (lk_0 hL) (lr_0_7 hL) (e_aload_n mb_42 dX11_waits_18 rfl (e_getr mb_42 dX11_waits_19 mf_42.1 fs_45081 fk_11_2 (lk_0 hL) (lr_0_2 hL) (e_getv mb_42 dX11_waits_22 mf_42.1 fs_45458 (Or.inl fk_1_8) (lk_14 hL) rfl (e_callV mb_42 dX11_waits_25 mf_42 mf_199 cs_45460 rfl rfl rfl rfl (lk_57 hL) rfl (v_199 hL (h.1 (cb_ne.1.mp q1)).1 (fun f1 hp2 => (show E _ _ _ _ [aI (f1 0)] _ _ _ _ _ from e_ireturn mb_42 dX11_waits_28 ri_42 (show E _ _ _ _ [] _ _ _ _ _ from e_aload_n mb_153 dX12_waits_0 rfl (e_getv mb_153 dX12_waits_1 mf_153.1 fs_49336 (Or.inl fk_12_18) (lk_77 hL) rfl (e_if mb_153 dX12_waits_4 rfl (fun q2 => e_aload_n mb_153 dX12_waits_9 rfl (e_callV mb_153 dX12_waits_10 mf_153 mf_152 cs_49517 rfl rfl rfl rfl (lk_77 hL) rfl (v_152 hL (((h.1 (cb_ne.1.mp q1)).2 f1 hp2).1 (cb_ne.1.mp q2)).1 (fun g3 r4 hp5 hp6 => (show E _ _ _ _ [] _ _ _ _ _ from e_aload_n mb_153 dX12_waits_13 rfl (e_getr mb_153 dX12_waits_14 mf_153.1 fs_49323 fk_12_66 (lk_77 hL) (lr_77_66 hL) (e_iconst mb_153 dX12_waits_17 cv_iconst_0 (e_ial mb_153 dX12_waits_18 (lk_129 hL) (ll_129 hL) ⟨by decide, by decide⟩ rfl (e_ireturn mb_153 dX12_waits_19 ri_153 ((((h.1 (cb_ne.1.mp q1)).2 f1 hp2).1 (cb_ne.1.mp q2)).2 g3 r4 hp5 hp6)))))))))) (fun q2 => e_iconst mb_153 dX12_waits_7 cv_iconst_m1 (e_ireturn mb_153 dX12_waits_8 ri_153 (((h.1 (cb_ne.1.mp q1)).2 f1 hp2).2 (cb_ne.2.mp q2)))))))))))))))) (fun q1 => e_iconst mb_42 dX11_waits_10 cv_iconst_m1 (e_goto mb_42 dX11_waits_11 rfl (e_ireturn mb_42 dX11_waits_28 ri_42 (show E _ _ _ _ [] _ _ _ _ _ from e_aload_n mb_153 dX12_waits_0 rfl (e_getv mb_153 dX12_waits_1 mf_153.1 fs_49336 (Or.inl fk_12_18) (lk_77 hL) rfl (e_if mb_153 dX12_waits_4 rfl (fun q3 => e_aload_n mb_153 dX12_waits_9 rfl (e_callV mb_153 dX12_waits_10 mf_153 mf_152 cs_49517 rfl rfl rfl rfl (lk_77 hL) rfl (v_152 hL ((h.2 (cb_ne.2.mp q1)).1 (cb_ne.1.mp q3)).1 (fun g7 r8 hp9 hp10 => (show E _ _ _ _ [] _ _ _ _ _ from e_aload_n mb_153 dX12_waits_13 rfl (e_getr mb_153 dX12_waits_14 mf_153.1 fs_49323 fk_12_66 (lk_77 hL) (lr_77_66 hL) (e_iconst mb_153 dX12_waits_17 cv_iconst_0 (e_ial mb_153 dX12_waits_18 (lk_129 hL) (ll_129 hL) ⟨by decide, by decide⟩ rfl (e_ireturn mb_153 dX12_waits_19 ri_153 (((h.2 (cb_ne.2.mp q1)).1 (cb_ne.1.mp q3)).2 g7 r8 hp9 hp10)))))))))) (fun q3 => e_iconst mb_153 dX12_waits_7 cv_iconst_m1 (e_ireturn mb_153 dX12_waits_8 ri_153 ((h.2 (cb_ne.2.mp q1)).2 (cb_ne.2.mp q3)))))))))))))
theorem c_41 {N : Nat} {sc : Nat × (Nat → Int)} {I : IH} {L : LH} {R : RH} {K : KH} (hI : Inv N I L R K) : E sc 42 0 [some (aR (some 0))] [] I L R K (fun rv I1 L1 R1 K1 => E sc 153 0 [some (aR (some 77))] [] I1 L1 R1 K1 (Fin (N + 1) rv)) := by
  have hL := hI.1
  have hl := ls_ok hI
  have hD := iD hI
  unfold InvD at hD
  have d1 := hD.1
  have d2 := hD.2.1
  have d3 := hD.2.2.1
  clear hD
  have h9 := hl.1
  have hN := tb_256 _ h9
  refine pr_42 hL ?_
  rw [d1]
  refine ⟨fun q1 => ⟨⟨hl, by omega⟩, fun f1 hp2 => ⟨fun q2 => ⟨⟨hl, by show 1 ≤ I 77 18; omega⟩, fun g3 r4 hp5 hp6 => fin_b (inv_tab hI (fun a j h1 h2 h3 => tab3 a j h1 h2 h3)) (tab_eq hl (by omega) (by omega) hp2 (TabF.i sameL61 hp5) (2 ^ (I 77 18).toNat - 1) 0 (by omega) (by omega))⟩, fun q2 => absurd q2 q1⟩⟩, fun q1 => ⟨fun q3 => absurd q1 q3, fun q3 => fin_b (inv_up hI) rfl⟩⟩
set_option maxRecDepth 8000 in
theorem pr_43 {sc : Nat × (Nat → Int)} {I : IH} {L : LH} {R : RH} {K : KH} {Q : Option AV → AQ} {i : Int} (hL : Lay R K) (h : ((-2147483648 : Int) ≤ (I 14 8) - 1 ∧ (I 14 8) - 1 < (2147483648 : Int)) ∧ (((0 : Int) ≤ i ∧ i ≤ ((I 14 8) - 1) → ((LsOK I (I 14 8).toNat ∧ 0 ≤ i ∧ i < (I 14 8))) ∧ (∀ (f1 : Nat → Int), (TabF I (I 14 8).toNat 1000000 0 f1) → ((-2147483648 : Int) ≤ ((tabF I 61 f1) 77 18) - 1 ∧ ((tabF I 61 f1) 77 18) - 1 < (2147483648 : Int)) ∧ (((0 : Int) ≤ i ∧ i ≤ (((tabF I 61 f1) 77 18) - 1) → ((LsOK (tabF I 61 f1) ((tabF I 61 f1) 77 18).toNat ∧ 1 ≤ (tabF I 61 f1) 77 18)) ∧ (∀ (g3 : Nat → Int), ∀ (r4 : Nat → Int), (TabF (tabF I 61 f1) ((tabF I 61 f1) 77 18).toNat 1000000 0 g3) → (∀ i, i < ((tabF I 61 f1) 77 18).toNat → r4 i = ((nxD (tabF I 61 f1) ((tabF I 61 f1) 77 18).toNat g3 (rowS (tabF I 61 f1) ((tabF I 61 f1) 77 18).toNat g3 i) : Nat) : Int)) → (((0 : Int) ≤ i ∧ i < (8 : Int))) ∧ Q (some (aI ((nxD I (I 14 8).toNat f1 (rowS I (I 14 8).toNat f1 i.toNat) : Nat) : Int))) (some (aI ((tabF (tabF (tabF I 61 f1) 129 g3) 130 r4) 130 i.toNat))) (tabF (tabF (tabF I 61 f1) 129 g3) 130 r4) L R K)) ∧ (¬((0 : Int) ≤ i ∧ i ≤ (((tabF I 61 f1) 77 18) - 1)) → Q (some (aI ((nxD I (I 14 8).toNat f1 (rowS I (I 14 8).toNat f1 i.toNat) : Nat) : Int))) (some (aI (-1))) (tabF I 61 f1) L R K)))) ∧ (¬((0 : Int) ≤ i ∧ i ≤ ((I 14 8) - 1)) → ((-2147483648 : Int) ≤ (I 77 18) - 1 ∧ (I 77 18) - 1 < (2147483648 : Int)) ∧ (((0 : Int) ≤ i ∧ i ≤ ((I 77 18) - 1) → ((LsOK I (I 77 18).toNat ∧ 1 ≤ I 77 18)) ∧ (∀ (g7 : Nat → Int), ∀ (r8 : Nat → Int), (TabF I (I 77 18).toNat 1000000 0 g7) → (∀ i, i < (I 77 18).toNat → r8 i = ((nxD I (I 77 18).toNat g7 (rowS I (I 77 18).toNat g7 i) : Nat) : Int)) → (((0 : Int) ≤ i ∧ i < (8 : Int))) ∧ Q (some (aI (-1))) (some (aI ((tabF (tabF I 129 g7) 130 r8) 130 i.toNat))) (tabF (tabF I 129 g7) 130 r8) L R K)) ∧ (¬((0 : Int) ≤ i ∧ i ≤ ((I 77 18) - 1)) → Q (some (aI (-1))) (some (aI (-1))) I L R K))))) : E sc 43 0 [some (aR (some 0)), some (aI i)] [] I L R K (fun rv I1 L1 R1 K1 => E sc 154 0 [some (aR (some 77)), some (aI i)] [] I1 L1 R1 K1 (Q rv)) :=
  e_iload_n mb_43 dX11_taught_0 rfl (e_iconst mb_43 dX11_taught_1 cv_iconst_0 (e_aload_n mb_43 dX11_taught_2 rfl (e_getr mb_43 dX11_taught_3 mf_43.1 fs_45081 fk_11_2 (lk_0 hL) (lr_0_2 hL) (e_getv mb_43 dX11_taught_6 mf_43.1 fs_45458 (Or.inl fk_1_8) (lk_14 hL) rfl (e_iconst mb_43 dX11_taught_9 cv_iconst_1 (e_isub mb_43 dX11_taught_10 h.1 (e_callS mb_43 dX11_taught_11 mf_43 mf_54 cs_45151 rfl rfl rfl rfl (v_54 hL (show E _ _ _ _ (_ :: _) _ _ _ _ _ from e_ifb_eq mb_43 dX11_taught_14 rfl ⟨fun q1 => e_aload_n mb_43 dX11_taught_17 rfl (e_getr mb_43 dX11_taught_18 mf_43.1 fs_45120 fk_11_7 (lk_0 hL) (lr_0_7 hL) (e_iload_n mb_43 dX11_taught_21 rfl (e_aload_n mb_43 dX11_taught_22 rfl (e_getr mb_43 dX11_taught_23 mf_43.1 fs_45081 fk_11_2 (lk_0 hL) (lr_0_2 hL) (e_getv mb_43 dX11_taught_26 mf_43.1 fs_45458 (Or.inl fk_1_8) (lk_14 hL) rfl (e_callV mb_43 dX11_taught_29 mf_43 mf_200 cs_45463 rfl rfl rfl rfl (lk_57 hL) rfl (v_200 hL (h.2.1 q1).1 (fun f1 hp2 => (show E _ _ _ _ [aI ((nxD I (I 14 8).toNat f1 (rowS I (I 14 8).toNat f1 i.toNat) : Nat) : Int)] _ _ _ _ _ from e_goto mb_43 dX11_taught_32 rfl (e_ireturn mb_43 dX11_taught_36 ri_43 (show E _ _ _ _ [] _ _ _ _ _ from e_iload_n mb_154 dX12_taught_0 rfl (e_iconst mb_154 dX12_taught_1 cv_iconst_0 (e_aload_n mb_154 dX12_taught_2 rfl (e_getv mb_154 dX12_taught_3 mf_154.1 fs_49336 (Or.inl fk_12_18) (lk_77 hL) rfl (e_iconst mb_154 dX12_taught_6 cv_iconst_1 (e_isub mb_154 dX12_taught_7 ((h.2.1 q1).2 f1 hp2).1 (e_callS mb_154 dX12_taught_8 mf_154 mf_66 cs_49329 rfl rfl rfl rfl (v_66 hL (show E _ _ _ _ (_ :: _) _ _ _ _ _ from e_ifb_ne mb_154 dX12_taught_11 rfl ⟨fun q2 => e_aload_n mb_154 dX12_taught_16 rfl (e_callV mb_154 dX12_taught_17 mf_154 mf_152 cs_49517 rfl rfl rfl rfl (lk_77 hL) rfl (v_152 hL (((h.2.1 q1).2 f1 hp2).2.1 q2).1 (fun g3 r4 hp5 hp6 => (show E _ _ _ _ [] _ _ _ _ _ from e_aload_n mb_154 dX12_taught_20 rfl (e_getr mb_154 dX12_taught_21 mf_154.1 fs_49326 fk_12_67 (lk_77 hL) (lr_77_67 hL) (e_iload_n mb_154 dX12_taught_24 rfl (e_ial mb_154 dX12_taught_25 (lk_130 hL) (ll_130 hL) ((((h.2.1 q1).2 f1 hp2).2.1 q2).2 g3 r4 hp5 hp6).1 rfl (e_ireturn mb_154 dX12_taught_26 ri_154 ((((h.2.1 q1).2 f1 hp2).2.1 q2).2 g3 r4 hp5 hp6).2)))))))), fun q2 => e_iconst mb_154 dX12_taught_14 cv_iconst_m1 (e_ireturn mb_154 dX12_taught_15 ri_154 (((h.2.1 q1).2 f1 hp2).2.2 q2))⟩))))))))))))))))))), fun q1 => e_iconst mb_43 dX11_taught_35 cv_iconst_m1 (e_ireturn mb_43 dX11_taught_36 ri_43 (show E _ _ _ _ [] _ _ _ _ _ from e_iload_n mb_154 dX12_taught_0 rfl (e_iconst mb_154 dX12_taught_1 cv_iconst_0 (e_aload_n mb_154 dX12_taught_2 rfl (e_getv mb_154 dX12_taught_3 mf_154.1 fs_49336 (Or.inl fk_12_18) (lk_77 hL) rfl (e_iconst mb_154 dX12_taught_6 cv_iconst_1 (e_isub mb_154 dX12_taught_7 (h.2.2 q1).1 (e_callS mb_154 dX12_taught_8 mf_154 mf_66 cs_49329 rfl rfl rfl rfl (v_66 hL (show E _ _ _ _ (_ :: _) _ _ _ _ _ from e_ifb_ne mb_154 dX12_taught_11 rfl ⟨fun q3 => e_aload_n mb_154 dX12_taught_16 rfl (e_callV mb_154 dX12_taught_17 mf_154 mf_152 cs_49517 rfl rfl rfl rfl (lk_77 hL) rfl (v_152 hL ((h.2.2 q1).2.1 q3).1 (fun g7 r8 hp9 hp10 => (show E _ _ _ _ [] _ _ _ _ _ from e_aload_n mb_154 dX12_taught_20 rfl (e_getr mb_154 dX12_taught_21 mf_154.1 fs_49326 fk_12_67 (lk_77 hL) (lr_77_67 hL) (e_iload_n mb_154 dX12_taught_24 rfl (e_ial mb_154 dX12_taught_25 (lk_130 hL) (ll_130 hL) (((h.2.2 q1).2.1 q3).2 g7 r8 hp9 hp10).1 rfl (e_ireturn mb_154 dX12_taught_26 ri_154 (((h.2.2 q1).2.1 q3).2 g7 r8 hp9 hp10).2)))))))), fun q3 => e_iconst mb_154 dX12_taught_14 cv_iconst_m1 (e_ireturn mb_154 dX12_taught_15 ri_154 ((h.2.2 q1).2.2 q3))⟩))))))))))⟩)))))))))
theorem c_42 {N : Nat} {sc : Nat × (Nat → Int)} {I : IH} {L : LH} {R : RH} {K : KH} {i : Int} (hI : Inv N I L R K) : E sc 43 0 [some (aR (some 0)), some (aI i)] [] I L R K (fun rv I1 L1 R1 K1 => E sc 154 0 [some (aR (some 77)), some (aI i)] [] I1 L1 R1 K1 (Fin (N + 1) rv)) := by
  have hL := hI.1
  have hl := ls_ok hI
  have hD := iD hI
  unfold InvD at hD
  have d1 := hD.1
  have d2 := hD.2.1
  have d3 := hD.2.2.1
  clear hD
  have h9 := hl.1
  have hN := tb_256 _ h9
  refine pr_43 hL ?_
  rw [d1]
  refine ⟨by omega, fun q1 => ⟨⟨hl, by omega⟩, fun f1 hp2 => ⟨?_, fun q2 => ⟨⟨hl, ?_⟩, fun g3 r4 hp5 hp6 => ⟨by omega, fin_b (inv_tab hI (fun a j h1 h2 h3 => tab3 a j h1 h2 h3)) ?_⟩⟩, fun q2 => absurd ?_ q2⟩⟩, fun q1 => ⟨by omega, fun q3 => by omega, fun q3 => fin_b (inv_up hI) rfl⟩⟩
  · show (-2147483648 : Int) ≤ I 77 18 - 1 ∧ I 77 18 - 1 < 2147483648
    omega
  · show 1 ≤ I 77 18
    omega
  · show _ = r4 i.toNat
    rw [hp6 i.toNat (by show i.toNat < (I 77 18).toNat; omega)]
    have hs := (rowS_p hl (by omega) hp2 i.toNat (by omega)).2.2 (by omega)
    have hp5 := TabF.i (n := (I 77 18).toNat) sameL61 hp5
    show ((nxD I (I 77 18).toNat f1 (rowS I (I 77 18).toNat f1 i.toNat) : Nat) : Int) = ((nxD (tabF I 61 f1) (I 77 18).toNat g3 (rowS (tabF I 61 f1) (I 77 18).toNat g3 i.toNat) : Nat) : Int)
    rw [rowS_i sameL61, nxD_i sameL61, ← rowS_eq hl (by omega) (by omega) hp2 hp5 i.toNat (by omega), nxD_eq hl (by omega) (by omega) hp2 hp5 hs]
  · show 0 ≤ i ∧ i ≤ I 77 18 - 1
    omega
