/-! die, settle -/
theorem seqM {J : IH} {r : Pu} {a x el par : Int} {al : Int → Bool} {d : Nat} : purB (purB J r) (goP ((purB J r) 107, (purB J r) 110) (hrM (purB J r) a) al el par d 1 x) = purB J (chilP r (hrM J a (-1)) d x) := by
  have e : goP ((purB J r) 107, (purB J r) 110) (hrM (purB J r) a) al el par d 1 x = chilP r (hrM J a (-1)) d x := by
    unfold goP
    rw [if_neg (by decide), if_pos rfl]
    rfl
  rw [e]
  exact purH_2
theorem w_132_0 {sc : Nat × (Nat → Int)} {I : IH} {L : LH} {R : RH} {K : KH} {Q : AQ} {a0 a1 : Int} (hL : Lay R K) (h : (((0 : Int) ≤ a0 ∧ a0 < (30 : Int))) ∧ (((0 : Int) ≤ a0 ∧ a0 < (30 : Int))) ∧ (((0 : Int) ≤ a0 ∧ a0 < (30 : Int))) ∧ ((a1 ≠ 0 → ((a1 ≠ 1 → ((200 ≤ a1 → ((-2147483648 : Int) ≤ a1 - 200 ∧ a1 - 200 < (2147483648 : Int)) ∧ (((∃ m T, DdM (setF (setF I 107 a0.toNat 0) 108 a0.toNat 1) a0 m ∧ T ≤ 299970 ∧ Tot (I 77 31) m T ((setF (setF I 107 a0.toNat 0) 108 a0.toNat 1) 107, (setF (setF I 107 a0.toNat 0) 108 a0.toNat 1) 110) (I 107 a0.toNat)) ∧ 0 ≤ (a1 - 200) ∧ (a1 - 200) ≤ 3)) ∧ Q none (purB (setF (setF I 107 a0.toNat 0) 108 a0.toNat 1) (goP ((setF (setF I 107 a0.toNat 0) 108 a0.toNat 1) 107, (setF (setF I 107 a0.toNat 0) 108 a0.toNat 1) 110) (hrM (setF (setF I 107 a0.toNat 0) 108 a0.toNat 1) a0) (alM (setF (setF I 107 a0.toNat 0) 108 a0.toNat 1)) (elM (setF (setF I 107 a0.toNat 0) 108 a0.toNat 1) a0) (I 103 a0.toNat) (I 102 a0.toNat).toNat (a1 - 200) (I 107 a0.toNat))) L R K) ∧ (a1 < 200 → ((-2147483648 : Int) ≤ a1 - 100 ∧ a1 - 100 < (2147483648 : Int)) ∧ ((-2147483648 : Int) ≤ (I 107 a0.toNat) * (a1 - 100) ∧ (I 107 a0.toNat) * (a1 - 100) < (2147483648 : Int)) ∧ ((0 : Int) ≤ ((I 107 a0.toNat) * (a1 - 100)) ∧ ((I 107 a0.toNat) * (a1 - 100)) < (2147483648 : Int)) ∧ (((0 : Int) ≤ a0 ∧ a0 < (30 : Int))) ∧ (((0 : Int) ≤ I 102 a0.toNat ∧ I 102 a0.toNat < (8 : Int))) ∧ ((-2147483648 : Int) ≤ (I 110 ((I 102 a0.toNat).toNat)) + (((I 107 a0.toNat) * (a1 - 100)) / 100) ∧ (I 110 ((I 102 a0.toNat).toNat)) + (((I 107 a0.toNat) * (a1 - 100)) / 100) < (2147483648 : Int)) ∧ (((0 : Int) ≤ I 102 a0.toNat ∧ I 102 a0.toNat < (8 : Int))) ∧ ((-2147483648 : Int) ≤ (I 107 a0.toNat) - (((I 107 a0.toNat) * (a1 - 100)) / 100) ∧ (I 107 a0.toNat) - (((I 107 a0.toNat) * (a1 - 100)) / 100) < (2147483648 : Int)) ∧ (((∃ m T, DdM (setF (setF (setF I 107 a0.toNat 0) 108 a0.toNat 1) 110 ((I 102 a0.toNat).toNat) ((I 110 ((I 102 a0.toNat).toNat)) + (((I 107 a0.toNat) * (a1 - 100)) / 100))) a0 m ∧ T ≤ 299970 ∧ Tot (I 77 31) m T ((setF (setF (setF I 107 a0.toNat 0) 108 a0.toNat 1) 110 ((I 102 a0.toNat).toNat) ((I 110 ((I 102 a0.toNat).toNat)) + (((I 107 a0.toNat) * (a1 - 100)) / 100))) 107, (setF (setF (setF I 107 a0.toNat 0) 108 a0.toNat 1) 110 ((I 102 a0.toNat).toNat) ((I 110 ((I 102 a0.toNat).toNat)) + (((I 107 a0.toNat) * (a1 - 100)) / 100))) 110) ((I 107 a0.toNat) - (((I 107 a0.toNat) * (a1 - 100)) / 100))) ∧ 0 ≤ (1 : Int) ∧ (1 : Int) ≤ 3)) ∧ Q none (purB (setF (setF (setF I 107 a0.toNat 0) 108 a0.toNat 1) 110 ((I 102 a0.toNat).toNat) ((I 110 ((I 102 a0.toNat).toNat)) + (((I 107 a0.toNat) * (a1 - 100)) / 100))) (goP ((setF (setF (setF I 107 a0.toNat 0) 108 a0.toNat 1) 110 ((I 102 a0.toNat).toNat) ((I 110 ((I 102 a0.toNat).toNat)) + (((I 107 a0.toNat) * (a1 - 100)) / 100))) 107, (setF (setF (setF I 107 a0.toNat 0) 108 a0.toNat 1) 110 ((I 102 a0.toNat).toNat) ((I 110 ((I 102 a0.toNat).toNat)) + (((I 107 a0.toNat) * (a1 - 100)) / 100))) 110) (hrM (setF (setF (setF I 107 a0.toNat 0) 108 a0.toNat 1) 110 ((I 102 a0.toNat).toNat) ((I 110 ((I 102 a0.toNat).toNat)) + (((I 107 a0.toNat) * (a1 - 100)) / 100))) a0) (alM (setF (setF (setF I 107 a0.toNat 0) 108 a0.toNat 1) 110 ((I 102 a0.toNat).toNat) ((I 110 ((I 102 a0.toNat).toNat)) + (((I 107 a0.toNat) * (a1 - 100)) / 100)))) (elM (setF (setF (setF I 107 a0.toNat 0) 108 a0.toNat 1) 110 ((I 102 a0.toNat).toNat) ((I 110 ((I 102 a0.toNat).toNat)) + (((I 107 a0.toNat) * (a1 - 100)) / 100))) a0) (I 103 a0.toNat) (I 102 a0.toNat).toNat (1 : Int) ((I 107 a0.toNat) - (((I 107 a0.toNat) * (a1 - 100)) / 100)))) L R K))) ∧ (a1 = 1 → (((∃ m T, DdM (setF (setF I 107 a0.toNat 0) 108 a0.toNat 1) a0 m ∧ T ≤ 299970 ∧ Tot (I 77 31) m T ((setF (setF I 107 a0.toNat 0) 108 a0.toNat 1) 107, (setF (setF I 107 a0.toNat 0) 108 a0.toNat 1) 110) (I 107 a0.toNat)) ∧ 0 ≤ (1 : Int) ∧ (1 : Int) ≤ 3)) ∧ Q none (purB (setF (setF I 107 a0.toNat 0) 108 a0.toNat 1) (goP ((setF (setF I 107 a0.toNat 0) 108 a0.toNat 1) 107, (setF (setF I 107 a0.toNat 0) 108 a0.toNat 1) 110) (hrM (setF (setF I 107 a0.toNat 0) 108 a0.toNat 1) a0) (alM (setF (setF I 107 a0.toNat 0) 108 a0.toNat 1)) (elM (setF (setF I 107 a0.toNat 0) 108 a0.toNat 1) a0) (I 103 a0.toNat) (I 102 a0.toNat).toNat (1 : Int) (I 107 a0.toNat))) L R K))) ∧ (a1 = 0 → (((0 : Int) ≤ a0 ∧ a0 < (30 : Int))) ∧ (((0 : Int) ≤ I 102 a0.toNat ∧ I 102 a0.toNat < (8 : Int))) ∧ ((-2147483648 : Int) ≤ (I 110 ((I 102 a0.toNat).toNat)) + (I 107 a0.toNat) ∧ (I 110 ((I 102 a0.toNat).toNat)) + (I 107 a0.toNat) < (2147483648 : Int)) ∧ (((0 : Int) ≤ I 102 a0.toNat ∧ I 102 a0.toNat < (8 : Int))) ∧ Q none (setF (setF (setF I 107 a0.toNat 0) 108 a0.toNat 1) 110 ((I 102 a0.toNat).toNat) ((I 110 ((I 102 a0.toNat).toNat)) + (I 107 a0.toNat))) L R K))) : E sc 132 0 [some (aR (some 77)), some (aI a0), some (aI a1), none, none] [] I L R K Q :=
  e_aload_n mb_132 dX12_partsGoods_0 rfl (e_getr mb_132 dX12_partsGoods_1 mf_132.1 fs_49254 fk_12_37 (lk_77 hL) (lr_77_37 hL) (e_iload_n mb_132 dX12_partsGoods_4 rfl (e_ial mb_132 dX12_partsGoods_5 (lk_107 hL) (ll_107 hL) h.1 rfl (e_istore_n (l1 := [some (aR (some 77)), some (aI a0), some (aI a1), some (aI (I 107 a0.toNat)), none]) mb_132 dX12_partsGoods_6 rfl (e_aload_n mb_132 dX12_partsGoods_7 rfl (e_getr mb_132 dX12_partsGoods_8 mf_132.1 fs_49254 fk_12_37 (lk_77 hL) (lr_77_37 hL) (e_iload_n mb_132 dX12_partsGoods_11 rfl (e_iconst mb_132 dX12_partsGoods_12 cv_iconst_0 (e_iastore mb_132 dX12_partsGoods_13 (lk_107 hL) (ll_107 hL) h.2.1 (e_aload_n mb_132 dX12_partsGoods_14 rfl (e_getr mb_132 dX12_partsGoods_15 mf_132.1 fs_49257 fk_12_38 (lk_77 hL) (lr_77_38 hL) (e_iload_n mb_132 dX12_partsGoods_18 rfl (e_iconst mb_132 dX12_partsGoods_19 cv_iconst_1 (e_iastore mb_132 dX12_partsGoods_20 (lk_108 hL) (ll_108 hL) h.2.2.1 (e_iload_n mb_132 dX12_partsGoods_21 rfl (e_if mb_132 dX12_partsGoods_22 rfl (fun q1 => e_iload_n mb_132 dX12_partsGoods_43 rfl (e_iconst mb_132 dX12_partsGoods_44 cv_iconst_1 (e_icmp mb_132 dX12_partsGoods_45 rfl (fun q2 => e_iload_n mb_132 dX12_partsGoods_58 rfl (e_sipush mb_132 dX12_partsGoods_59 cv_sipush_200 (e_icmp mb_132 dX12_partsGoods_62 rfl (fun q3 => e_aload_n mb_132 dX12_partsGoods_105 rfl (e_iload_n mb_132 dX12_partsGoods_106 rfl (e_iload_n mb_132 dX12_partsGoods_107 rfl (e_sipush mb_132 dX12_partsGoods_108 cv_sipush_200 (e_isub mb_132 dX12_partsGoods_111 (((h.2.2.2.1 (cb_ne.1.mp q1)).1 (cb_ne.1.mp q2)).1 (cb_ge.1.mp q3)).1 (e_iload_n mb_132 dX12_partsGoods_112 rfl (e_callV mb_132 dX12_partsGoods_113 mf_132 mf_131 cs_49485 rfl rfl rfl rfl (lk_77 hL) rfl (v_131 hL (((h.2.2.2.1 (cb_ne.1.mp q1)).1 (cb_ne.1.mp q2)).1 (cb_ge.1.mp q3)).2.1 (show E _ _ _ _ [] _ _ _ _ _ from e_return mb_132 dX12_partsGoods_116 rv_132 (((h.2.2.2.1 (cb_ne.1.mp q1)).1 (cb_ne.1.mp q2)).1 (cb_ge.1.mp q3)).2.2))))))))) (fun q3 => e_iload_n mb_132 dX12_partsGoods_65 rfl (e_iload_n mb_132 dX12_partsGoods_66 rfl (e_bipush mb_132 dX12_partsGoods_67 cv_bipush_100 (e_isub mb_132 dX12_partsGoods_69 (((h.2.2.2.1 (cb_ne.1.mp q1)).1 (cb_ne.1.mp q2)).2 (cb_ge.2.mp q3)).1 (e_imul mb_132 dX12_partsGoods_70 (((h.2.2.2.1 (cb_ne.1.mp q1)).1 (cb_ne.1.mp q2)).2 (cb_ge.2.mp q3)).2.1 (e_bipush mb_132 dX12_partsGoods_71 cv_bipush_100 (e_idiv mb_132 dX12_partsGoods_73 ⟨(((h.2.2.2.1 (cb_ne.1.mp q1)).1 (cb_ne.1.mp q2)).2 (cb_ge.2.mp q3)).2.2.1, by decide⟩ (e_istore (l1 := [some (aR (some 77)), some (aI a0), some (aI a1), some (aI (I 107 a0.toNat)), some (aI (((I 107 a0.toNat) * (a1 - 100)) / 100))]) mb_132 dX12_partsGoods_74 rfl (e_aload_n mb_132 dX12_partsGoods_76 rfl (e_getr mb_132 dX12_partsGoods_77 mf_132.1 fs_49263 fk_12_40 (lk_77 hL) (lr_77_40 hL) (e_aload_n mb_132 dX12_partsGoods_80 rfl (e_getr mb_132 dX12_partsGoods_81 mf_132.1 fs_49239 fk_12_32 (lk_77 hL) (lr_77_32 hL) (e_iload_n mb_132 dX12_partsGoods_84 rfl (e_ial mb_132 dX12_partsGoods_85 (lk_102 hL) (ll_102 hL) (((h.2.2.2.1 (cb_ne.1.mp q1)).1 (cb_ne.1.mp q2)).2 (cb_ge.2.mp q3)).2.2.2.1 rfl (e_dup2 mb_132 dX12_partsGoods_86 ⟨rfl, rfl⟩ (e_ial mb_132 dX12_partsGoods_87 (lk_110 hL) (ll_110 hL) (((h.2.2.2.1 (cb_ne.1.mp q1)).1 (cb_ne.1.mp q2)).2 (cb_ge.2.mp q3)).2.2.2.2.1 rfl (e_iload mb_132 dX12_partsGoods_88 rfl (e_iadd mb_132 dX12_partsGoods_90 (((h.2.2.2.1 (cb_ne.1.mp q1)).1 (cb_ne.1.mp q2)).2 (cb_ge.2.mp q3)).2.2.2.2.2.1 (e_iastore mb_132 dX12_partsGoods_91 (lk_110 hL) (ll_110 hL) (((h.2.2.2.1 (cb_ne.1.mp q1)).1 (cb_ne.1.mp q2)).2 (cb_ge.2.mp q3)).2.2.2.2.2.2.1 (e_aload_n mb_132 dX12_partsGoods_92 rfl (e_iload_n mb_132 dX12_partsGoods_93 rfl (e_iconst mb_132 dX12_partsGoods_94 cv_iconst_1 (e_iload_n mb_132 dX12_partsGoods_95 rfl (e_iload mb_132 dX12_partsGoods_96 rfl (e_isub mb_132 dX12_partsGoods_98 (((h.2.2.2.1 (cb_ne.1.mp q1)).1 (cb_ne.1.mp q2)).2 (cb_ge.2.mp q3)).2.2.2.2.2.2.2.1 (e_callV mb_132 dX12_partsGoods_99 mf_132 mf_131 cs_49485 rfl rfl rfl rfl (lk_77 hL) rfl (v_131 hL (((h.2.2.2.1 (cb_ne.1.mp q1)).1 (cb_ne.1.mp q2)).2 (cb_ge.2.mp q3)).2.2.2.2.2.2.2.2.1 (show E _ _ _ _ [] _ _ _ _ _ from e_goto mb_132 dX12_partsGoods_102 rfl (e_return mb_132 dX12_partsGoods_116 rv_132 (((h.2.2.2.1 (cb_ne.1.mp q1)).1 (cb_ne.1.mp q2)).2 (cb_ge.2.mp q3)).2.2.2.2.2.2.2.2.2)))))))))))))))))))))))))))))))) (fun q2 => e_aload_n mb_132 dX12_partsGoods_48 rfl (e_iload_n mb_132 dX12_partsGoods_49 rfl (e_iconst mb_132 dX12_partsGoods_50 cv_iconst_1 (e_iload_n mb_132 dX12_partsGoods_51 rfl (e_callV mb_132 dX12_partsGoods_52 mf_132 mf_131 cs_49485 rfl rfl rfl rfl (lk_77 hL) rfl (v_131 hL ((h.2.2.2.1 (cb_ne.1.mp q1)).2 (cb_ne.2.mp q2)).1 (show E _ _ _ _ [] _ _ _ _ _ from e_goto mb_132 dX12_partsGoods_55 rfl (e_return mb_132 dX12_partsGoods_116 rv_132 ((h.2.2.2.1 (cb_ne.1.mp q1)).2 (cb_ne.2.mp q2)).2))))))))))) (fun q1 => e_aload_n mb_132 dX12_partsGoods_25 rfl (e_getr mb_132 dX12_partsGoods_26 mf_132.1 fs_49263 fk_12_40 (lk_77 hL) (lr_77_40 hL) (e_aload_n mb_132 dX12_partsGoods_29 rfl (e_getr mb_132 dX12_partsGoods_30 mf_132.1 fs_49239 fk_12_32 (lk_77 hL) (lr_77_32 hL) (e_iload_n mb_132 dX12_partsGoods_33 rfl (e_ial mb_132 dX12_partsGoods_34 (lk_102 hL) (ll_102 hL) (h.2.2.2.2 (cb_ne.2.mp q1)).1 rfl (e_dup2 mb_132 dX12_partsGoods_35 ⟨rfl, rfl⟩ (e_ial mb_132 dX12_partsGoods_36 (lk_110 hL) (ll_110 hL) (h.2.2.2.2 (cb_ne.2.mp q1)).2.1 rfl (e_iload_n mb_132 dX12_partsGoods_37 rfl (e_iadd mb_132 dX12_partsGoods_38 (h.2.2.2.2 (cb_ne.2.mp q1)).2.2.1 (e_iastore mb_132 dX12_partsGoods_39 (lk_110 hL) (ll_110 hL) (h.2.2.2.2 (cb_ne.2.mp q1)).2.2.2.1 (e_goto mb_132 dX12_partsGoods_40 rfl (e_return mb_132 dX12_partsGoods_116 rv_132 (h.2.2.2.2 (cb_ne.2.mp q1)).2.2.2.2)))))))))))))))))))))))))))))
theorem v_132 {sc : Nat × (Nat → Int)} {I : IH} {L : LH} {R : RH} {K : KH} {Q : AQ} {a0 a1 : Int} (hL : Lay R K) (hp : (∃ m T, DdM I a0 m ∧ T ≤ 299970 ∧ Tot (I 77 31) m T ((setF (setF I 107 a0.toNat 0) 108 a0.toNat 1) 107, (setF (setF I 107 a0.toNat 0) 108 a0.toNat 1) 110) (I 107 a0.toNat)) ∧ (a1 = 0 ∨ a1 = 1 ∨ (100 ≤ a1 ∧ a1 ≤ 203))) (h : Q none (purB (setF (setF I 107 a0.toNat 0) 108 a0.toNat 1) (partP ((setF (setF I 107 a0.toNat 0) 108 a0.toNat 1) 107, (setF (setF I 107 a0.toNat 0) 108 a0.toNat 1) 110) (hrM (setF (setF I 107 a0.toNat 0) 108 a0.toNat 1) a0) (alM (setF (setF I 107 a0.toNat 0) 108 a0.toNat 1)) (elM (setF (setF I 107 a0.toNat 0) 108 a0.toNat 1) a0) (I 103 a0.toNat) (I 102 a0.toNat).toNat a1 (I 107 a0.toNat))) L R K) : E sc 132 0 [some (aR (some 77)), some (aI a0), some (aI a1), none, none] [] I L R K Q := by
  obtain ⟨⟨m, T, hdd0, hT, ht⟩, hw⟩ := hp
  have hdd : DdM (setF (setF I 107 a0.toNat 0) 108 a0.toNat 1) a0 m := hdd0
  obtain ⟨ha, hd, hn, hpa⟩ := hdd0
  have hx := ht.b hT
  have i8 : (I 102 a0.toNat).toNat < 8 := by omega
  have im : (((I 102 a0.toNat).toNat : Nat) : Int) < m := by omega
  have b8 := hx.2.1 (I 102 a0.toNat).toNat i8
  have b8 : 0 ≤ I 110 (I 102 a0.toNat).toNat ∧ I 110 (I 102 a0.toNat).toNat + I 107 a0.toNat ≤ 299970 := b8
  have e110 : (setF (setF I 107 a0.toNat 0) 108 a0.toNat 1) 110 = I 110 := rfl
  have e31 : (setF (setF I 107 a0.toNat 0) 108 a0.toNat 1) 77 31 = I 77 31 := rfl
  refine w_132_0 hL ⟨by omega, by omega, by omega, ?_⟩
  generalize setF (setF I 107 a0.toNat 0) 108 a0.toNat 1 = B at *
  have hnB : 0 ≤ B 77 31 ∧ B 77 31 ≤ 30 := hdd.2.2.1
  have ec : ∀ y : Int, setF B 110 (I 102 a0.toNat).toNat (I 110 (I 102 a0.toNat).toNat + y) = purB B (chestP (B 107, B 110) (I 102 a0.toNat).toNat y) := fun y => by
    rw [← e110]
    exact purH_chest (by decide)
  have hth : ∀ y : Int, 0 ≤ y → y ≤ I 107 a0.toNat → Tot (I 77 31) m T (chestP (B 107, B 110) (I 102 a0.toNat).toNat y) (I 107 a0.toNat - y) := fun y h1 h2 => Tot.chest (by rw [show y + (I 107 a0.toNat - y) = I 107 a0.toNat by omega]; exact ht) h1 (by omega) i8 im
  unfold partP at h
  refine ⟨fun q1 => ⟨fun q2 => ⟨fun q3 => ?_, fun q3 => ?_⟩, fun q2 => ?_⟩, fun q1 => ?_⟩
  · rw [if_neg q1, if_pos q3] at h
    exact ⟨by omega, ⟨⟨m, T, hdd, hT, ht⟩, by omega⟩, h⟩
  · have ho := owP_b (e := a1) (x := I 107 a0.toNat) (by omega) (by omega)
    have eo : owP a1 (I 107 a0.toNat) = ((I 107 a0.toNat) * (a1 - 100)) / 100 := by unfold owP; rw [if_pos (by omega)]
    rw [if_neg q1, if_neg (by omega)] at h
    have h1 : 0 ≤ I 107 a0.toNat * (a1 - 100) := Int.mul_nonneg (by omega) (by omega)
    have h2 : I 107 a0.toNat * (a1 - 100) ≤ 299970 * 99 := Int.mul_le_mul (by omega) (by omega) (by omega) (by omega)
    rw [← eo, ec]
    refine ⟨by omega, by omega, by omega, by omega, by omega, by omega, by omega, by omega, ⟨⟨m, T, hdd, hT, hth _ ho.1 ho.2⟩, by omega⟩, ?_⟩
    rw [seqM]
    exact h
  · rw [if_neg q1, if_neg (by omega), show owP a1 (I 107 a0.toNat) = 0 by unfold owP; rw [if_neg (by omega)], chest0, show I 107 a0.toNat - 0 = I 107 a0.toNat by omega] at h
    refine ⟨⟨⟨m, T, hdd, hT, ht⟩, by omega⟩, ?_⟩
    have e : goP (B 107, B 110) (hrM B a0) (alM B) (elM B a0) (I 103 a0.toNat) (I 102 a0.toNat).toNat (1 : Int) (I 107 a0.toNat) = chilP (B 107, B 110) (hrM B a0 (-1)) (I 102 a0.toNat).toNat (I 107 a0.toNat) := by
      unfold goP
      rw [if_neg (by decide), if_pos rfl]
    rw [e]
    exact h
  · rw [if_pos q1] at h
    rw [ec]
    exact ⟨by omega, by omega, by omega, by omega, h⟩
/-- two purses alike where it matters -/
def PuE (a b : Pu) : Prop := (∀ j, j < 30 → a.1 j = b.1 j) ∧ ∀ d, d < 8 → a.2 d = b.2 d
theorem PuE.chest {a b : Pu} (h : PuE a b) {d : Nat} {x : Int} (hd : d < 8) : PuE (chestP a d x) (chestP b d x) := by
  refine ⟨h.1, fun j hj => ?_⟩
  show (if j = d then a.2 d + x else a.2 j) = (if j = d then b.2 d + x else b.2 j)
  rw [h.2 d hd, h.2 j hj]
theorem PuE.one {a b : Pu} (h : PuE a b) {al : Bool} {i d : Nat} {x : Int} (hd : d < 8) (hi : al = true → i < 30) : PuE (oneP a al i d x) (oneP b al i d x) := by
  unfold oneP
  by_cases q : al = true
  · rw [if_pos q, if_pos q]
    refine ⟨fun j hj => ?_, h.2⟩
    show (if j = i then a.1 i + x else a.1 j) = (if j = i then b.1 i + x else b.1 j)
    rw [h.1 i (hi q), h.1 j hj]
  · rw [if_neg q, if_neg q]
    exact h.chest hd
theorem PuE.chil {a b : Pu} (h : PuE a b) {p : Nat → Bool} {d : Nat} {x : Int} (hd : d < 8) : PuE (chilP a p d x) (chilP b p d x) := by
  unfold chilP
  by_cases q : cntI p 30 = 0
  · rw [if_pos q, if_pos q]
    exact h.chest hd
  · rw [if_neg q, if_neg q]
    refine ⟨fun j hj => ?_, h.2⟩
    show evC a.1 p x (cntI p 30) j = evC b.1 p x (cntI p 30) j
    unfold evC
    rw [h.1 j hj]
theorem PuE.part {a b : Pu} (h : PuE a b) {hr : Int → Nat → Bool} {al al2 : Int → Bool} {el par e x : Int} {d : Nat} (hd : d < 8) (h1 : al el = al2 el) (h2 : al par = al2 par) (h3 : al2 el = true → el.toNat < 30) (h4 : al2 par = true → par.toNat < 30) : PuE (partP a hr al el par d e x) (partP b hr al2 el par d e x) := by
  unfold partP
  split
  · exact h.chest hd
  · split
    · unfold goP
      rw [h1, h2]
      split
      · exact h.one hd h3
      · split
        · exact h.chil hd
        · split
          · exact h.one hd h4
          · exact (h.one hd h3).chil hd
    · exact (h.chest hd).chil hd
def PR (I : IH) (p e : Int) : Pu := partP (updF (I 107) p.toNat 0, I 110) (hrM I p) (alM I) (elM I p) (I 103 p.toNat) (I 102 p.toNat).toNat e (I 107 p.toNat)
def totI (I : IH) : Int := sumTo (fun j => I 107 j) 30 + sumTo (fun j => I 110 j) 8
theorem tot_0 {N : Nat} {I : IH} {L : LH} {R : RH} {K : KH} (hI : Inv N I L R K) : Tot (I 77 31) (I 77 18) (totI I) (I 107, I 110) 0 ∧ totI I ≤ 299970 ∧ totI I ≤ 9999 * I 77 31 := by
  have hP := iP hI
  obtain ⟨p1, p2, p3, p4, p5, p6, p7⟩ := hP
  refine ⟨⟨fun j hj => ?_, fun d hd => ?_, by omega, by show totI I + 0 = totI I; omega⟩, by unfold totI; omega, p7⟩
  · have := p5 j hj
    exact ⟨this.1, fun g => (this.2.2 g).2⟩
  · have := p6 d hd
    exact ⟨this.2.1, this.2.2⟩
theorem tot_1 {N : Nat} {I : IH} {L : LH} {R : RH} {K : KH} (hI : Inv N I L R K) {p : Int} (hp : 0 ≤ p ∧ p < I 77 31) : Tot (I 77 31) (I 77 18) (totI I) (updF (I 107) p.toNat 0, I 110) (I 107 p.toNat) := by
  have hP := iP hI
  obtain ⟨h1, h2, h3, h4⟩ := (tot_0 hI).1
  refine ⟨fun j hj => ?_, h2, (h1 p.toNat (by have := hP.2.2.1; omega)).1, ?_⟩
  · show 0 ≤ updF (I 107) p.toNat 0 j ∧ _
    have := h1 j hj
    have this : 0 ≤ I 107 j ∧ (I 77 31 ≤ (j : Int) → I 107 j = 0) := this
    show 0 ≤ (if j = p.toNat then 0 else I 107 j) ∧ (I 77 31 ≤ (j : Int) → (if j = p.toNat then 0 else I 107 j) = 0)
    split
    · exact ⟨by omega, fun _ => rfl⟩
    · exact this
  · have := sumTo_set (f := I 107) (k := p.toNat) (v := 0) 30
    rw [if_pos (by have := hP.2.2.1; omega)] at this
    have h4 : sumTo (I 107) 30 + sumTo (I 110) 8 + 0 = totI I := h4
    show sumTo (fun j => if j = p.toNat then 0 else I 107 j) 30 + sumTo (I 110) 8 + I 107 p.toNat = totI I
    rw [this]
    omega
theorem tot_2 {N : Nat} {I : IH} {L : LH} {R : RH} {K : KH} (hI : Inv N I L R K) {p e : Int} (hp : 0 ≤ p ∧ p < I 77 31) : Tot (I 77 31) (I 77 18) (totI I) (PR I p e) 0 := by
  have hP := iP hI
  obtain ⟨p1, p2, p3, p4, p5, p6, p7⟩ := hP
  have hD := iD hI
  have hd := p4 p.toNat (by omega)
  have d3 := hD.2.2.1
  exact Tot.part (tot_1 hI hp) (by omega) (by omega) (fun b j q => hrM_n q) (fun i q => alM_n ⟨p2, p3⟩ q)
theorem inv_die {N : Nat} {I F : IH} {L : LH} {R : RH} {K : KH} (hI : Inv N I L R K) {p st so : Int} {ck : Pu} (hp : 0 ≤ p ∧ p < I 77 31) (hF : Pg I F) (h34 : ∀ j, F 34 j = if j = p.toNat then st else I 34 j) (h108 : ∀ j, F 108 j = if j = p.toNat then st else I 108 j) (h35 : ∀ j, F 35 j = if j = p.toNat then so else I 35 j) (h109 : ∀ j, F 109 j = if j = p.toNat then so else I 109 j) (h33 : ∀ j, j < 30 → F 33 j = ck.1 j) (h107 : ∀ j, j < 30 → F 107 j = ck.1 j) (h18 : ∀ d, d < 8 → F 18 d = ck.2 d) (h110 : ∀ d, d < 8 → F 110 d = ck.2 d) (hst : 0 ≤ st ∧ st ≤ 2) (hso : -1 ≤ so ∧ so ≤ 1535 ∧ (st = 2 → 0 ≤ so)) {T : Int} (hT : Tot (I 77 31) (I 77 18) T ck 0) (hT2 : T ≤ 9999 * I 77 31) : Inv (N + 1) F L R K := by
  obtain ⟨h1, h2, h3, h4, h5, h6, h7, h8, h9, h10, h11, h12, h13, h14, h15⟩ := hI
  have e : ∀ a j, ¬ S1 a j → F a j = I a j := hF
  refine ⟨h1, h2, invS_a h3 (fun a j q => e a j ?_), invD_a h4 (fun a j q => e a j ?_), invE_a h5 (fun a j q => e a j ?_), invC_a h6 (fun a j q => e a j ?_), ?_, invT_a h8 (fun a j q => e a j ?_), invL_a h9 (fun a j q => e a j ?_), invA_a h10 (fun a j q => e a j ?_), invX_a h11 (fun a j q => e a j ?_), invR_a h12 (fun a j q => e a j ?_) (fun _ _ _ _ => rfl), invW_a h13 (fun a j q => e a j ?_) (fun _ _ _ _ => rfl), by omega, by omega⟩
  · unfold pS at q; unfold S1 S0; omega
  · unfold pD at q; unfold S1 S0; omega
  · unfold pE at q; unfold S1 S0; omega
  · unfold pC at q; unfold S1 S0; omega
  · obtain ⟨p1, p2, p3, p4, p5, p6, p7⟩ := h7
    obtain ⟨t1, t2, t3, t4⟩ := hT
    have e279 : F 27 9 = I 27 9 := e _ _ (by unfold S1 S0; omega)
    have e31 : F 77 31 = I 77 31 := e _ _ (by unfold S1 S0; omega)
    have e18 : F 77 18 = I 77 18 := e _ _ (by unfold S1 S0; omega)
    unfold InvP
    rw [e279, e31, e18]
    refine ⟨p1, p2, p3, fun i hi => ?_, fun i hi => ?_, fun d hd => ?_, ?_⟩
    · have := p4 i hi
      rw [e 28 i (by unfold S1 S0; omega), e 29 i (by unfold S1 S0; omega), e 30 i (by unfold S1 S0; omega), e 31 i (by unfold S1 S0; omega), e 32 i (by unfold S1 S0; omega), e 102 i (by unfold S1 S0; omega), e 103 i (by unfold S1 S0; omega), e 104 i (by unfold S1 S0; omega), e 105 i (by unfold S1 S0; omega), e 106 i (by unfold S1 S0; omega), h34, h108, h35, h109, h33 i (by omega), h107 i (by omega)]
      by_cases q : i = p.toNat
      · rw [if_pos q, if_pos q, if_pos q, if_pos q]; omega
      · rw [if_neg q, if_neg q, if_neg q, if_neg q]; omega
    · have := p5 i hi
      have t := t1 i hi
      rw [h33 i hi, h107 i hi, h108]
      refine ⟨t.1, rfl, fun g => ⟨?_, t.2 g⟩⟩
      rw [if_neg (by omega)]
      exact (this.2.2 g).1
    · have t := t2 d hd
      rw [h18 d hd, h110 d hd]
      exact ⟨rfl, t.1, t.2⟩
    · have s1 := sumTo_congr (f := fun j => F 107 j) (g := ck.1) 30 (fun j hj => h107 j hj)
      have s2 := sumTo_congr (f := fun j => F 110 j) (g := ck.2) 8 (fun j hj => h110 j hj)
      rw [s1, s2]
      omega
  · unfold pT at q; unfold S1 S0; omega
  · unfold pL at q; unfold S1 S0; omega
  · unfold pA at q; unfold S1 S0; omega
  · unfold pX at q; unfold S1 S0; omega
  · unfold pR at q; unfold S1 S0; omega
  · unfold pW at q; unfold S1 S0; omega
theorem topF_end {p : Nat → Prop} [DecidablePred p] {r e : Nat → Int} {m : Nat} (h : ∀ i, i < m → (0 ≤ r i ∧ r i ≤ 9) ∧ (e i = 0 ∨ e i = 1 ∨ (100 ≤ e i ∧ e i ≤ 203))) : ∀ n, n ≤ m → (0 ≤ topF p r e n ∧ (topF p r e n % 256 - 3 = -3 ∨ topF p r e n % 256 - 3 = -2 ∨ topF p r e n % 256 - 3 = 0 ∨ topF p r e n % 256 - 3 = 1 ∨ (100 ≤ topF p r e n % 256 - 3 ∧ topF p r e n % 256 - 3 ≤ 203))) := by
  intro n
  induction n with
  | zero => intro _; exact ⟨Int.le_refl _, .inl rfl⟩
  | succ n ih =>
    intro hn
    have h1 := ih (by omega)
    have h2 := h n (by omega)
    by_cases q : p n
    · rw [topF_s1 q]
      unfold jn
      split
      · refine ⟨by omega, ?_⟩
        have : ((r n + 1) * 256 + (e n + 3)) % 256 = e n + 3 := by omega
        rw [this]
        omega
      · split
        · refine ⟨by omega, ?_⟩
          have : ((r n + 1) * 256 + 1) % 256 = 1 := by omega
          rw [this]
          omega
        · exact h1
    · rw [topF_s0 q]
      exact h1
theorem law_end {N : Nat} {I : IH} {L : LH} {R : RH} {K : KH} (hI : Inv N I L R K) {d s f j k : Int} : lawM I d s f j k < 0 ∨ lawM I d s f j k = 0 ∨ lawM I d s f j k = 1 ∨ (100 ≤ lawM I d s f j k ∧ lawM I d s f j k ≤ 203) := by
  have hR := iR hI
  obtain ⟨r1, r2, r3, r4, -⟩ := hR
  have key : ∀ b lo hi s a k : Int, ansM I b lo hi s a k < 0 ∨ ansM I b lo hi s a k = 0 ∨ ansM I b lo hi s a k = 1 ∨ (100 ≤ ansM I b lo hi s a k ∧ ansM I b lo hi s a k ≤ 203) := by
    intro b lo hi s a k
    have := topF_end (p := tmP I b lo hi s a k (-1)) (r := fun r => I 85 r) (e := fun r => I 79 (if (r : Int) = -1 then 95 else r)) (m := (I 77 7).toNat) (fun i hi => by
      have g := (r4 i (by omega)).2
      show (0 ≤ I 85 i ∧ I 85 i ≤ 9) ∧ (I 79 (if (i : Int) = -1 then 95 else i) = 0 ∨ I 79 (if (i : Int) = -1 then 95 else i) = 1 ∨ (100 ≤ I 79 (if (i : Int) = -1 then 95 else i) ∧ I 79 (if (i : Int) = -1 then 95 else i) ≤ 203))
      rw [if_neg (by omega)]
      exact ⟨g.2.2.2.1.2, g.2.2.2.2.2.2.2.2.2.2.2.2.1.2.1⟩) (I 77 7).toNat (Nat.le_refl _)
    have e : ansM I b lo hi s a k = topF (tmP I b lo hi s a k (-1)) (fun r => I 85 r) (fun r => I 79 (if (r : Int) = -1 then 95 else r)) (I 77 7).toNat % 256 - 3 := rfl
    rw [e]
    omega
  unfold lawM
  split
  · split
    · exact key _ _ _ _ _ _
    · split
      · exact key _ _ _ _ _ _
      · exact key _ _ _ _ _ _
  · exact key _ _ _ _ _ _
/-- what the class leaves -/
def ResC (I I0 J : IH) (p e : Int) : Prop := (∀ x j, ¬ S0 x j → x ≠ 18 → x ≠ 33 → x ≠ 34 → J x j = I0 x j) ∧ (∀ j, J 34 j = if 0 ≤ e ∧ j = p.toNat then 1 else I0 34 j) ∧ (∀ j, j < 30 → J 33 j = if e < 0 then I 107 j else (PR I p e).1 j) ∧ ∀ d, d < 8 → J 18 d = if e < 0 then I 110 d else (PR I p e).2 d
theorem hrC_eq {N : Nat} {I B : IH} {L : LH} {R : RH} {K : KH} (hI : Inv N I L R K) {p b : Int} (hp : 0 ≤ p ∧ p < I 77 31) (e9 : B 27 9 = I 27 9) (e29 : ∀ j, B 29 j = I 29 j) (e34 : ∀ j, j ≠ p.toNat → B 34 j = I 34 j) : hrC B p b = hrM I p b := by
  obtain ⟨p1, p2, p3, p4, p5, p6, p7⟩ := iP hI
  funext j
  unfold hrC hrM
  rw [decide_eq_decide, e9, e29, p1]
  by_cases q : (j : Int) < I 77 31
  · have := p4 j q
    by_cases q2 : j = p.toNat
    · exact ⟨fun g => by omega, fun g => by omega⟩
    · rw [e34 j q2]
      exact ⟨fun g => ⟨q, by omega, by omega, g.2.2.2⟩, fun g => ⟨q, by omega, by omega, g.2.2.2⟩⟩
  · exact ⟨fun g => absurd g.1 q, fun g => absurd g.1 q⟩
theorem elC_eq {N : Nat} {I B : IH} {L : LH} {R : RH} {K : KH} (hI : Inv N I L R K) {p : Int} (hp : 0 ≤ p ∧ p < I 77 31) (e9 : B 27 9 = I 27 9) (e29 : ∀ j, B 29 j = I 29 j) (e34 : ∀ j, j ≠ p.toNat → B 34 j = I 34 j) : elC B p = elM I p := by
  obtain ⟨p1, p2, p3, p4, p5, p6, p7⟩ := iP hI
  unfold elC elM
  rw [e9, p1]
  refine ffrom_congr (fun j hj => ?_) _ (Nat.le_refl _)
  have := p4 j (by omega)
  rw [e29]
  by_cases q2 : j = p.toNat
  · exact ⟨fun g => by omega, fun g => by omega⟩
  · rw [e34 j q2]
    exact ⟨fun g => ⟨by omega, by omega⟩, fun g => ⟨by omega, by omega, by omega⟩⟩
theorem el_ne {N : Nat} {I : IH} {L : LH} {R : RH} {K : KH} (hI : Inv N I L R K) {p : Int} (hp : 0 ≤ p ∧ p < I 77 31) : -1 ≤ elM I p ∧ elM I p < I 77 31 ∧ elM I p ≠ p := by
  obtain ⟨p1, p2, p3, p4, p5, p6, p7⟩ := iP hI
  rcases elM_p (a := p) ⟨p2, p3⟩ with g | g
  · omega
  · have h := of_decide_eq_true g.2.2.1
    have := p4 (elM I p).toNat (by omega)
    refine ⟨by omega, by omega, fun q => ?_⟩
    rw [q] at h this
    omega
theorem alC_eq {N : Nat} {I B : IH} {L : LH} {R : RH} {K : KH} (hI : Inv N I L R K) {p i : Int} (e9 : B 27 9 = I 27 9) (e34 : ∀ j, j ≠ p.toNat → B 34 j = I 34 j) (hi : i = -1 ∨ i ≠ p) (hp : 0 ≤ p) : alC B i = alM I i := by
  obtain ⟨p1, p2, p3, p4, p5, p6, p7⟩ := iP hI
  unfold alC alM
  rw [decide_eq_decide, e9, p1]
  by_cases q : 0 ≤ i ∧ i < I 77 31
  · have := p4 i.toNat (by omega)
    rw [e34 i.toNat (by omega)]
    exact ⟨fun g => ⟨g.1, g.2.1, by omega⟩, fun g => ⟨g.1, g.2.1, by omega⟩⟩
  · exact ⟨fun g => absurd ⟨g.1, g.2.1⟩ q, fun g => absurd ⟨g.1, g.2.1⟩ q⟩
def preC (I : IH) (a : Int) : Prop := ∃ m T, DdC I a m ∧ T ≤ 299970 ∧ Tot (I 27 9) m T ((setF I 33 a.toNat 0) 33, (setF I 33 a.toNat 0) 18) (I 33 a.toNat)
def resC (I : IH) (a e : Int) : IH := purA (setF I 33 a.toNat 0) (partP ((setF I 33 a.toNat 0) 33, (setF I 33 a.toNat 0) 18) (hrC (setF I 33 a.toNat 0) a) (alC (setF I 33 a.toNat 0)) (elC (setF I 33 a.toNat 0) a) (I 29 a.toNat) (I 28 a.toNat).toNat e (I 33 a.toNat))
def preM (I : IH) (a : Int) : Prop := ∃ m T, DdM I a m ∧ T ≤ 299970 ∧ Tot (I 77 31) m T ((setF (setF I 107 a.toNat 0) 108 a.toNat 1) 107, (setF (setF I 107 a.toNat 0) 108 a.toNat 1) 110) (I 107 a.toNat)
def resM (I : IH) (a e : Int) : IH := purB (setF (setF I 107 a.toNat 0) 108 a.toNat 1) (partP ((setF (setF I 107 a.toNat 0) 108 a.toNat 1) 107, (setF (setF I 107 a.toNat 0) 108 a.toNat 1) 110) (hrM (setF (setF I 107 a.toNat 0) 108 a.toNat 1) a) (alM (setF (setF I 107 a.toNat 0) 108 a.toNat 1)) (elM (setF (setF I 107 a.toNat 0) 108 a.toNat 1) a) (I 103 a.toNat) (I 102 a.toNat).toNat e (I 107 a.toNat))
theorem w_214_0 {sc : Nat × (Nat → Int)} {I : IH} {L : LH} {R : RH} {K : KH} {Q : AQ} {a0 a1 : Int} (hL : Lay R K) (h : (((0 : Int) ≤ a0 ∧ a0 < (30 : Int))) ∧ (((0 : Int) ≤ a0 ∧ a0 < (30 : Int))) ∧ ((RulesOK I R K) ∧ (0 ≤ (I 28 a0.toNat) ∧ (I 28 a0.toNat) < 8) ∧ (0 ≤ I 15 (I 28 a0.toNat).toNat ∧ I 15 (I 28 a0.toNat).toNat ≤ 4)) ∧ (∀ (J1 : IH), (Sg I J1) → (((lawC I L R (I 28 a0.toNat) (I 35 a0.toNat) a1 a1 a1) < 0 → Q (some (aI (lawC I L R (I 28 a0.toNat) (I 35 a0.toNat) a1 a1 a1))) J1 L R K) ∧ (0 ≤ (lawC I L R (I 28 a0.toNat) (I 35 a0.toNat) a1 a1 a1) → (((0 : Int) ≤ a0 ∧ a0 < (30 : Int))) ∧ ((preC (setF J1 34 a0.toNat 1) a0 ∧ 0 ≤ (lawC I L R (I 28 a0.toNat) (I 35 a0.toNat) a1 a1 a1) ∧ (lawC I L R (I 28 a0.toNat) (I 35 a0.toNat) a1 a1 a1) ≤ 203)) ∧ Q (some (aI (lawC I L R (I 28 a0.toNat) (I 35 a0.toNat) a1 a1 a1))) (resC (setF J1 34 a0.toNat 1) a0 (lawC I L R (I 28 a0.toNat) (I 35 a0.toNat) a1 a1 a1)) L R K)))) : E sc 214 0 [some (aR (some 27)), some (aI a0), some (aI a1), none] [] I L R K Q :=
  e_aload_n mb_214 dX3_endQuarrel_0 rfl (e_getr mb_214 dX3_endQuarrel_1 mf_214.1 fs_12324 fk_3_0 (lk_27 hL) (lr_27_0 hL) (e_aload_n mb_214 dX3_endQuarrel_4 rfl (e_getr mb_214 dX3_endQuarrel_5 mf_214.1 fs_12299 fk_3_1 (lk_27 hL) (lr_27_1 hL) (e_iload_n mb_214 dX3_endQuarrel_8 rfl (e_ial mb_214 dX3_endQuarrel_9 (lk_28 hL) (ll_28 hL) h.1 rfl (e_aload_n mb_214 dX3_endQuarrel_10 rfl (e_getr mb_214 dX3_endQuarrel_11 mf_214.1 fs_12321 fk_3_8 (lk_27 hL) (lr_27_8 hL) (e_iload_n mb_214 dX3_endQuarrel_14 rfl (e_ial mb_214 dX3_endQuarrel_15 (lk_35 hL) (ll_35 hL) h.2.1 rfl (e_iload_n mb_214 dX3_endQuarrel_16 rfl (e_iload_n mb_214 dX3_endQuarrel_17 rfl (e_iload_n mb_214 dX3_endQuarrel_18 rfl (e_callV mb_214 dX3_endQuarrel_19 mf_214 mf_191 cs_12340 rfl rfl rfl rfl (lk_14 hL) rfl (v_191 hL h.2.2.1.1 h.2.2.1.2.1 h.2.2.1.2.2 (fun J1 hp2 => (show E _ _ _ _ [aI (lawC I L R (I 28 a0.toNat) (I 35 a0.toNat) a1 a1 a1)] _ _ _ _ _ from e_istore_n (l1 := [some (aR (some 27)), some (aI a0), some (aI a1), some (aI (lawC I L R (I 28 a0.toNat) (I 35 a0.toNat) a1 a1 a1))]) mb_214 dX3_endQuarrel_22 rfl (e_iload_n mb_214 dX3_endQuarrel_23 rfl (e_if mb_214 dX3_endQuarrel_24 rfl (fun q1 => e_iload_n mb_214 dX3_endQuarrel_40 rfl (e_ireturn mb_214 dX3_endQuarrel_41 ri_214 ((h.2.2.2 J1 hp2).1 (cb_lt.1.mp q1)))) (fun q1 => e_aload_n mb_214 dX3_endQuarrel_27 rfl (e_getr mb_214 dX3_endQuarrel_28 mf_214.1 fs_12318 fk_3_7 (lk_27 hL) (lr_27_7 hL) (e_iload_n mb_214 dX3_endQuarrel_31 rfl (e_iconst mb_214 dX3_endQuarrel_32 cv_iconst_1 (e_iastore mb_214 dX3_endQuarrel_33 (lk_34 hL) (ll_34 hL) ((h.2.2.2 J1 hp2).2 (cb_lt.2.mp q1)).1 (e_aload_n mb_214 dX3_endQuarrel_34 rfl (e_iload_n mb_214 dX3_endQuarrel_35 rfl (e_iload_n mb_214 dX3_endQuarrel_36 rfl (e_callV mb_214 dX3_endQuarrel_37 mf_214 mf_216 cs_12346 rfl rfl rfl rfl (lk_27 hL) rfl (v_216 hL ((h.2.2.2 J1 hp2).2 (cb_lt.2.mp q1)).2.1 (show E _ _ _ _ [] _ _ _ _ _ from e_iload_n mb_214 dX3_endQuarrel_40 rfl (e_ireturn mb_214 dX3_endQuarrel_41 ri_214 ((h.2.2.2 J1 hp2).2 (cb_lt.2.mp q1)).2.2))))))))))))))))))))))))))))))
theorem dieC {N : Nat} {sc : Nat × (Nat → Int)} {I I0 : IH} {L : LH} {R : RH} {K : KH} {Q : AQ} (hI : Inv N I L R K) {p s : Int} (hp : 0 ≤ p ∧ p < I 77 31) (h0 : ∀ x j, x ≠ 34 → x ≠ 35 → I0 x j = I x j) (h34 : ∀ j, j ≠ p.toNat → I0 34 j = I 34 j) (hs : I0 35 p.toNat = s) (hs2 : 0 ≤ s ∧ s < 1536) (h : ∀ J, ResC I I0 J p (lawM I (I 102 p.toNat) s (I 77 0) (I 77 0) (I 77 0)) → Q (some (aI (lawM I (I 102 p.toNat) s (I 77 0) (I 77 0) (I 77 0)))) J L R K) : E sc 214 0 [some (aR (some 27)), some (aI p), some (aI (I 77 0)), none] [] I0 L R K Q := by
  have hL := hI.1
  obtain ⟨p1, p2, p3, p4, p5, p6, p7⟩ := iP hI
  have hd := p4 p.toNat (by omega)
  have hD := iD hI
  have d3 := hD.2.2.1
  have hdd := hD.2.2.2.1
  have hpg : Pg I I0 := fun a j q => h0 a j (fun g => q (by unfold S1; omega)) (fun g => q (by unfold S1; omega))
  have hro := rules_ok (iR hI)
  have hro0 := rulesOK_pg hro hpg
  have e28 : I0 28 p.toNat = I 102 p.toNat := by rw [h0 _ _ (by omega) (by omega)]; exact hd.1
  have hdc := hdd (I 102 p.toNat).toNat (by omega)
  have el : lawC I0 L R (I0 28 p.toNat) (I0 35 p.toNat) (I 77 0) (I 77 0) (I 77 0) = lawM I (I 102 p.toNat) s (I 77 0) (I 77 0) (I 77 0) := by
    rw [lawC_pg hro hpg lg_r, e28, hs]
    exact law_eq hI hs2 (by omega) (Int.le_refl _)
  have hend := law_end hI (d := I 102 p.toNat) (s := s) (f := I 77 0) (j := I 77 0) (k := I 77 0)
  have t1 := tot_1 hI hp
  have tl := (tot_0 hI).2.1
  refine w_214_0 hL ⟨by omega, by omega, ⟨hro0, by rw [e28]; omega, by rw [e28, h0 _ _ (by omega) (by omega)]; omega⟩, fun J1 hJ => ?_⟩
  rw [el]
  generalize lawM I (I 102 p.toNat) s (I 77 0) (I 77 0) (I 77 0) = e at *
  have j1 : ∀ x j, ¬ S0 x j → x ≠ 34 → x ≠ 35 → J1 x j = I x j := fun x j q1 q2 q3 => by rw [hJ x j q1, h0 x j q2 q3]
  have j34 : ∀ j, J1 34 j = I0 34 j := fun j => hJ _ _ (by unfold S0; omega)
  refine ⟨fun q1 => h J1 ⟨fun x j g1 g2 g3 g4 => hJ x j g1, fun j => by rw [if_neg (by omega), j34], fun j hj => ?_, fun d hd8 => ?_⟩, fun q1 => ⟨by omega, ⟨?_, by omega⟩, h _ ?_⟩⟩
  · rw [if_pos q1, j1 33 j (by unfold S0; omega) (by omega) (by omega)]
    exact (p5 j hj).2.1
  · rw [if_pos q1, j1 18 d (by unfold S0; omega) (by omega) (by omega)]
    exact (p6 d hd8).1
  · have c33 : ∀ j, j < 30 → setF (setF J1 34 p.toNat 1) 33 p.toNat 0 33 j = updF (I 107) p.toNat 0 j := fun j hj => by
      rw [setF_i]
      unfold updF
      by_cases q : j = p.toNat
      · rw [if_pos q, if_pos q]
      · rw [if_neg q, if_neg q, setF_c (by omega), j1 33 j (by unfold S0; omega) (by omega) (by omega)]
        exact (p5 j hj).2.1
    have e33 : setF J1 34 p.toNat 1 33 p.toNat = I 107 p.toNat := by
      rw [setF_c (by omega), j1 33 _ (by unfold S0; omega) (by omega) (by omega)]
      exact (p5 p.toNat (by omega)).2.1
    have e279 : setF J1 34 p.toNat 1 27 9 = I 77 31 := by
      rw [setF_c (by omega), j1 27 9 (by unfold S0; omega) (by omega) (by omega), p1]
    have e28 : setF J1 34 p.toNat 1 28 p.toNat = I 102 p.toNat := by
      rw [setF_c (by omega), j1 28 _ (by unfold S0; omega) (by omega) (by omega)]
      exact hd.1
    refine ⟨I 77 18, totI I, ⟨by rw [e279]; omega, by rw [e28]; omega, by rw [e279]; omega⟩, tl, ?_⟩
    rw [e279, e33]
    obtain ⟨x1, x2, x3, x4⟩ := t1
    refine ⟨fun j hj => ?_, fun d hd8 => ?_, x3, ?_⟩
    · show 0 ≤ setF (setF J1 34 p.toNat 1) 33 p.toNat 0 33 j ∧ (I 77 31 ≤ (j : Int) → setF (setF J1 34 p.toNat 1) 33 p.toNat 0 33 j = 0)
      rw [c33 j hj]
      exact x1 j hj
    · show 0 ≤ setF (setF J1 34 p.toNat 1) 33 p.toNat 0 18 d ∧ (I 77 18 ≤ (d : Int) → setF (setF J1 34 p.toNat 1) 33 p.toNat 0 18 d = 0)
      rw [setF_c (by omega), setF_c (by omega), j1 18 d (by unfold S0; omega) (by omega) (by omega), (p6 d hd8).1]
      exact x2 d hd8
    · have s1 := sumTo_congr (f := setF (setF J1 34 p.toNat 1) 33 p.toNat 0 33) (g := updF (I 107) p.toNat 0) 30 c33
      have s2 := sumTo_congr (f := setF (setF J1 34 p.toNat 1) 33 p.toNat 0 18) (g := I 110) 8 (fun d hd8 => by
        rw [setF_c (by omega), setF_c (by omega), j1 18 d (by unfold S0; omega) (by omega) (by omega), (p6 d hd8).1])
      show sumTo (setF (setF J1 34 p.toNat 1) 33 p.toNat 0 33) 30 + sumTo (setF (setF J1 34 p.toNat 1) 33 p.toNat 0 18) 8 + I 107 p.toNat = totI I
      rw [s1, s2]
      exact x4
  · have f34 : ∀ j, j ≠ p.toNat → setF (setF J1 34 p.toNat 1) 33 p.toNat 0 34 j = I 34 j := fun j hj => by
      rw [setF_c (by omega), setF_i, if_neg hj, j34, h34 j hj]
    have f29 : ∀ j, setF (setF J1 34 p.toNat 1) 33 p.toNat 0 29 j = I 29 j := fun j => by
      rw [setF_c (by omega), setF_c (by omega), j1 29 j (by unfold S0; omega) (by omega) (by omega)]
    have f279 : setF (setF J1 34 p.toNat 1) 33 p.toNat 0 27 9 = I 27 9 := by
      rw [setF_c (by omega), setF_c (by omega), j1 27 9 (by unfold S0; omega) (by omega) (by omega)]
    have g28 : setF J1 34 p.toNat 1 28 p.toNat = I 102 p.toNat := by
      rw [setF_c (by omega), j1 28 _ (by unfold S0; omega) (by omega) (by omega)]
      exact hd.1
    have g29 : setF J1 34 p.toNat 1 29 p.toNat = I 103 p.toNat := by
      rw [setF_c (by omega), j1 29 _ (by unfold S0; omega) (by omega) (by omega)]
      omega
    have g33 : setF J1 34 p.toNat 1 33 p.toNat = I 107 p.toNat := by
      rw [setF_c (by omega), j1 33 _ (by unfold S0; omega) (by omega) (by omega)]
      exact (p5 p.toNat (by omega)).2.1
    have hel := el_ne hI hp
    have hpu : PuE (partP ((setF (setF J1 34 p.toNat 1) 33 p.toNat 0) 33, (setF (setF J1 34 p.toNat 1) 33 p.toNat 0) 18) (hrC (setF (setF J1 34 p.toNat 1) 33 p.toNat 0) p) (alC (setF (setF J1 34 p.toNat 1) 33 p.toNat 0)) (elC (setF (setF J1 34 p.toNat 1) 33 p.toNat 0) p) (setF J1 34 p.toNat 1 29 p.toNat) (setF J1 34 p.toNat 1 28 p.toNat).toNat e (setF J1 34 p.toNat 1 33 p.toNat)) (PR I p e) := by
      unfold PR
      rw [g28, g29, g33, elC_eq hI hp f279 f29 f34, show hrC (setF (setF J1 34 p.toNat 1) 33 p.toNat 0) p = hrM I p from funext fun b => hrC_eq hI hp f279 f29 f34]
      refine PuE.part ⟨fun j hj => ?_, fun d hd8 => ?_⟩ (by omega) (alC_eq hI f279 f34 (by omega) hp.1) (alC_eq hI f279 f34 (by omega) hp.1) (fun g => by have := alM_n ⟨p2, p3⟩ g; omega) (fun g => by have := alM_n ⟨p2, p3⟩ g; omega)
      · show setF (setF J1 34 p.toNat 1) 33 p.toNat 0 33 j = updF (I 107) p.toNat 0 j
        rw [setF_i]
        unfold updF
        by_cases q : j = p.toNat
        · rw [if_pos q, if_pos q]
        · rw [if_neg q, if_neg q, setF_c (by omega), j1 33 j (by unfold S0; omega) (by omega) (by omega)]
          exact (p5 j hj).2.1
      · show setF (setF J1 34 p.toNat 1) 33 p.toNat 0 18 d = I 110 d
        rw [setF_c (by omega), setF_c (by omega), j1 18 d (by unfold S0; omega) (by omega) (by omega)]
        exact (p6 d hd8).1
    refine ⟨fun x j g1 g2 g3 g4 => ?_, fun j => ?_, fun j hj => ?_, fun d hd8 => ?_⟩
    · show (if x = 33 then _ else if x = 18 then _ else setF (setF J1 34 p.toNat 1) 33 p.toNat 0 x j) = I0 x j
      rw [if_neg g3, if_neg g2, setF_c g3, setF_c g4]
      exact hJ x j g1
    · show setF (setF J1 34 p.toNat 1) 33 p.toNat 0 34 j = _
      rw [setF_c (by omega), setF_i]
      by_cases q : j = p.toNat
      · rw [if_pos q, if_pos ⟨q1, q⟩]
      · rw [if_neg q, if_neg (fun g => q g.2), j34]
    · rw [if_neg (by omega)]
      exact hpu.1 j hj
    · rw [if_neg (by omega)]
      exact hpu.2 d hd8
