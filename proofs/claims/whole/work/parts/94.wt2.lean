/-! waits, taught: the class -/
theorem w_202_0 {sc : Nat × (Nat → Int)} {I : IH} {L : LH} {R : RH} {K : KH} {Q : AQ} {a0 a1 : Int} (hL : Lay R K) (h : (((0 : Int) ≤ a0 ∧ a0 < (8 : Int))) ∧ (((I 60 a0.toNat) = (-1) → (((iand (ishr a1 a0) 1) ≠ 0 → Q (some (aI 0)) I L R K) ∧ ((iand (ishr a1 a0) 1) = 0 → Q (some (aI 1)) I L R K))) ∧ ((I 60 a0.toNat) ≠ (-1) → (((0 : Int) ≤ a0 ∧ a0 < (8 : Int))) ∧ (((iand (ishr a1 (I 60 a0.toNat)) 1) = 0 → Q (some (aI 0)) I L R K) ∧ ((iand (ishr a1 (I 60 a0.toNat)) 1) ≠ 0 → (((iand (ishr a1 a0) 1) ≠ 0 → Q (some (aI 0)) I L R K) ∧ ((iand (ishr a1 a0) 1) = 0 → Q (some (aI 1)) I L R K))))))) : E sc 202 0 [some (aR (some 57)), some (aI a0), some (aI a1), none] [] I L R K Q :=
  e_aload_n mb_202 dX2_mayFollow_0 rfl (e_getr mb_202 dX2_mayFollow_1 mf_202.1 fs_8210 fk_2_2 (lk_57 hL) (lr_57_2 hL) (e_iload_n mb_202 dX2_mayFollow_4 rfl (e_ial mb_202 dX2_mayFollow_5 (lk_60 hL) (ll_60 hL) h.1 rfl (e_iconst mb_202 dX2_mayFollow_6 cv_iconst_m1 (e_icmp mb_202 dX2_mayFollow_7 rfl (fun q1 => e_iconst mb_202 dX2_mayFollow_23 cv_iconst_1 (e_goto mb_202 dX2_mayFollow_24 rfl (e_istore_n (l1 := [some (aR (some 57)), some (aI a0), some (aI a1), some (aI 1)]) mb_202 dX2_mayFollow_28 rfl (e_iload_n mb_202 dX2_mayFollow_29 rfl (e_if mb_202 dX2_mayFollow_30 rfl (fun q => absurd q (by decide)) (fun _ => e_iload_n mb_202 dX2_mayFollow_33 rfl (e_iload_n mb_202 dX2_mayFollow_34 rfl (e_ishr mb_202 dX2_mayFollow_35 (e_iconst mb_202 dX2_mayFollow_36 cv_iconst_1 (e_iand mb_202 dX2_mayFollow_37 (e_if mb_202 dX2_mayFollow_38 rfl (fun q2 => e_iconst mb_202 dX2_mayFollow_45 cv_iconst_0 (e_ireturn mb_202 dX2_mayFollow_46 (ri_202 (Or.inl rfl)) ((h.2.1 (cb_eq.1.mp q1)).1 (cb_ne.1.mp q2)))) (fun q2 => e_iconst mb_202 dX2_mayFollow_41 cv_iconst_1 (e_goto mb_202 dX2_mayFollow_42 rfl (e_ireturn mb_202 dX2_mayFollow_46 (ri_202 (Or.inr rfl)) ((h.2.1 (cb_eq.1.mp q1)).2 (cb_ne.2.mp q2)))))))))))))))) (fun q1 => e_iload_n mb_202 dX2_mayFollow_10 rfl (e_aload_n mb_202 dX2_mayFollow_11 rfl (e_getr mb_202 dX2_mayFollow_12 mf_202.1 fs_8210 fk_2_2 (lk_57 hL) (lr_57_2 hL) (e_iload_n mb_202 dX2_mayFollow_15 rfl (e_ial mb_202 dX2_mayFollow_16 (lk_60 hL) (ll_60 hL) (h.2.2 (cb_eq.2.mp q1)).1 rfl (e_ishr mb_202 dX2_mayFollow_17 (e_iconst mb_202 dX2_mayFollow_18 cv_iconst_1 (e_iand mb_202 dX2_mayFollow_19 (e_if mb_202 dX2_mayFollow_20 rfl (fun q3 => e_iconst mb_202 dX2_mayFollow_27 cv_iconst_0 (e_istore_n (l1 := [some (aR (some 57)), some (aI a0), some (aI a1), some (aI 0)]) mb_202 dX2_mayFollow_28 rfl (e_iload_n mb_202 dX2_mayFollow_29 rfl (e_if mb_202 dX2_mayFollow_30 rfl (fun _ => e_iconst mb_202 dX2_mayFollow_45 cv_iconst_0 (e_ireturn mb_202 dX2_mayFollow_46 (ri_202 (Or.inl rfl)) ((h.2.2 (cb_eq.2.mp q1)).2.1 (cb_eq.1.mp q3)))) (fun q => absurd q (by decide)))))) (fun q3 => e_iconst mb_202 dX2_mayFollow_23 cv_iconst_1 (e_goto mb_202 dX2_mayFollow_24 rfl (e_istore_n (l1 := [some (aR (some 57)), some (aI a0), some (aI a1), some (aI 1)]) mb_202 dX2_mayFollow_28 rfl (e_iload_n mb_202 dX2_mayFollow_29 rfl (e_if mb_202 dX2_mayFollow_30 rfl (fun q => absurd q (by decide)) (fun _ => e_iload_n mb_202 dX2_mayFollow_33 rfl (e_iload_n mb_202 dX2_mayFollow_34 rfl (e_ishr mb_202 dX2_mayFollow_35 (e_iconst mb_202 dX2_mayFollow_36 cv_iconst_1 (e_iand mb_202 dX2_mayFollow_37 (e_if mb_202 dX2_mayFollow_38 rfl (fun q4 => e_iconst mb_202 dX2_mayFollow_45 cv_iconst_0 (e_ireturn mb_202 dX2_mayFollow_46 (ri_202 (Or.inl rfl)) (((h.2.2 (cb_eq.2.mp q1)).2.2 (cb_eq.2.mp q3)).1 (cb_ne.1.mp q4)))) (fun q4 => e_iconst mb_202 dX2_mayFollow_41 cv_iconst_1 (e_goto mb_202 dX2_mayFollow_42 rfl (e_ireturn mb_202 dX2_mayFollow_46 (ri_202 (Or.inr rfl)) (((h.2.2 (cb_eq.2.mp q1)).2.2 (cb_eq.2.mp q3)).2 (cb_ne.2.mp q4))))))))))))))))))))))))))))))
theorem w_203_0 {sc : Nat × (Nat → Int)} {I : IH} {L : LH} {R : RH} {K : KH} {Q : AQ} {a0 a1 : Int} (hL : Lay R K) (h : (((0 : Int) ≤ a0 ∧ a0 < (8 : Int))) ∧ E sc 203 10 [some (aR (some 57)), some (aI a0), some (aI a1), some (aI (I 58 a0.toNat)), some (aI 0)] [] I L R K Q) : E sc 203 0 [some (aR (some 57)), some (aI a0), some (aI a1), none, none] [] I L R K Q :=
  e_aload_n mb_203 dX2_waitsIfNext_0 rfl (e_getr mb_203 dX2_waitsIfNext_1 mf_203.1 fs_8201 fk_2_0 (lk_57 hL) (lr_57_0 hL) (e_iload_n mb_203 dX2_waitsIfNext_4 rfl (e_ial mb_203 dX2_waitsIfNext_5 (lk_58 hL) (ll_58 hL) h.1 rfl (e_istore_n (l1 := [some (aR (some 57)), some (aI a0), some (aI a1), some (aI (I 58 a0.toNat)), none]) mb_203 dX2_waitsIfNext_6 rfl (e_iconst mb_203 dX2_waitsIfNext_7 cv_iconst_0 (e_istore (l1 := [some (aR (some 57)), some (aI a0), some (aI a1), some (aI (I 58 a0.toNat)), some (aI 0)]) mb_203 dX2_waitsIfNext_8 rfl h.2))))))
theorem w_203_10 {sc : Nat × (Nat → Int)} {I : IH} {L : LH} {R : RH} {K : KH} {Q : AQ} {x1 x2 x3 x4 : Int} (hL : Lay R K) (h : ((8 ≤ x4 → (((0 : Int) ≤ x1 ∧ x1 < (8 : Int))) ∧ ((-2147483648 : Int) ≤ x3 * (I 59 x1.toNat) ∧ x3 * (I 59 x1.toNat) < (2147483648 : Int)) ∧ (((0 : Int) ≤ (ior x2 (ishl 1 x1)) ∧ (ior x2 (ishl 1 x1)) < (256 : Int))) ∧ ((-2147483648 : Int) ≤ (x3 * (I 59 x1.toNat)) + (I 61 ((ior x2 (ishl 1 x1)).toNat)) ∧ (x3 * (I 59 x1.toNat)) + (I 61 ((ior x2 (ishl 1 x1)).toNat)) < (2147483648 : Int)) ∧ Q (some (aI ((x3 * (I 59 x1.toNat)) + (I 61 ((ior x2 (ishl 1 x1)).toNat))))) I L R K) ∧ (x4 < 8 → (((iand (ishr x2 x4) 1) = 0 → ((-2147483648 : Int) ≤ x4 + 1 ∧ x4 + 1 < (2147483648 : Int)) ∧ E sc 203 10 [some (aR (some 57)), some (aI x1), some (aI x2), some (aI x3), some (aI (x4 + 1))] [] I L R K Q) ∧ ((iand (ishr x2 x4) 1) ≠ 0 → (((0 : Int) ≤ x4 ∧ x4 < (8 : Int))) ∧ ((-2147483648 : Int) ≤ x3 + (I 58 x4.toNat) ∧ x3 + (I 58 x4.toNat) < (2147483648 : Int)) ∧ ((-2147483648 : Int) ≤ x4 + 1 ∧ x4 + 1 < (2147483648 : Int)) ∧ E sc 203 10 [some (aR (some 57)), some (aI x1), some (aI x2), some (aI (x3 + (I 58 x4.toNat))), some (aI (x4 + 1))] [] I L R K Q))))) : E sc 203 10 [some (aR (some 57)), some (aI x1), some (aI x2), some (aI x3), some (aI x4)] [] I L R K Q :=
  e_iload mb_203 dX2_waitsIfNext_10 rfl (e_aload_n mb_203 dX2_waitsIfNext_12 rfl (e_getr mb_203 dX2_waitsIfNext_13 mf_203.1 fs_8201 fk_2_0 (lk_57 hL) (lr_57_0 hL) (e_len mb_203 dX2_waitsIfNext_16 (by rw [lk_58 hL]; decide) (ll_58 hL) (e_icmp mb_203 dX2_waitsIfNext_17 rfl (fun q1 => e_iload_n mb_203 dX2_waitsIfNext_45 rfl (e_aload_n mb_203 dX2_waitsIfNext_46 rfl (e_getr mb_203 dX2_waitsIfNext_47 mf_203.1 fs_8207 fk_2_1 (lk_57 hL) (lr_57_1 hL) (e_iload_n mb_203 dX2_waitsIfNext_50 rfl (e_ial mb_203 dX2_waitsIfNext_51 (lk_59 hL) (ll_59 hL) (h.1 (cb_ge.1.mp q1)).1 rfl (e_imul mb_203 dX2_waitsIfNext_52 (h.1 (cb_ge.1.mp q1)).2.1 (e_aload_n mb_203 dX2_waitsIfNext_53 rfl (e_getr mb_203 dX2_waitsIfNext_54 mf_203.1 fs_8213 fk_2_3 (lk_57 hL) (lr_57_3 hL) (e_iload_n mb_203 dX2_waitsIfNext_57 rfl (e_iconst mb_203 dX2_waitsIfNext_58 cv_iconst_1 (e_iload_n mb_203 dX2_waitsIfNext_59 rfl (e_ishl mb_203 dX2_waitsIfNext_60 (e_ior mb_203 dX2_waitsIfNext_61 (e_ial mb_203 dX2_waitsIfNext_62 (lk_61 hL) (ll_61 hL) (h.1 (cb_ge.1.mp q1)).2.2.1 rfl (e_iadd mb_203 dX2_waitsIfNext_63 (h.1 (cb_ge.1.mp q1)).2.2.2.1 (e_ireturn mb_203 dX2_waitsIfNext_64 ri_203 (h.1 (cb_ge.1.mp q1)).2.2.2.2)))))))))))))))) (fun q1 => e_iload_n mb_203 dX2_waitsIfNext_20 rfl (e_iload mb_203 dX2_waitsIfNext_21 rfl (e_ishr mb_203 dX2_waitsIfNext_23 (e_iconst mb_203 dX2_waitsIfNext_24 cv_iconst_1 (e_iand mb_203 dX2_waitsIfNext_25 (e_if mb_203 dX2_waitsIfNext_26 rfl (fun q2 => e_iinc (l1 := [some (aR (some 57)), some (aI x1), some (aI x2), some (aI x3), some (aI (x4 + 1))]) mb_203 dX2_waitsIfNext_39 rfl ((h.2 (cb_ge.2.mp q1)).1 (cb_eq.1.mp q2)).1 rfl (e_goto mb_203 dX2_waitsIfNext_42 rfl (((h.2 (cb_ge.2.mp q1)).1 (cb_eq.1.mp q2)).2))) (fun q2 => e_iload_n mb_203 dX2_waitsIfNext_29 rfl (e_aload_n mb_203 dX2_waitsIfNext_30 rfl (e_getr mb_203 dX2_waitsIfNext_31 mf_203.1 fs_8201 fk_2_0 (lk_57 hL) (lr_57_0 hL) (e_iload mb_203 dX2_waitsIfNext_34 rfl (e_ial mb_203 dX2_waitsIfNext_36 (lk_58 hL) (ll_58 hL) ((h.2 (cb_ge.2.mp q1)).2 (cb_eq.2.mp q2)).1 rfl (e_iadd mb_203 dX2_waitsIfNext_37 ((h.2 (cb_ge.2.mp q1)).2 (cb_eq.2.mp q2)).2.1 (e_istore_n (l1 := [some (aR (some 57)), some (aI x1), some (aI x2), some (aI (x3 + (I 58 x4.toNat))), some (aI x4)]) mb_203 dX2_waitsIfNext_38 rfl (e_iinc (l1 := [some (aR (some 57)), some (aI x1), some (aI x2), some (aI (x3 + (I 58 x4.toNat))), some (aI (x4 + 1))]) mb_203 dX2_waitsIfNext_39 rfl ((h.2 (cb_ge.2.mp q1)).2 (cb_eq.2.mp q2)).2.2.1 rfl (e_goto mb_203 dX2_waitsIfNext_42 rfl (((h.2 (cb_ge.2.mp q1)).2 (cb_eq.2.mp q2)).2.2.2))))))))))))))))))))
theorem w_150_0 {sc : Nat × (Nat → Int)} {I : IH} {L : LH} {R : RH} {K : KH} {Q : AQ} {a0 a1 : Int} (hL : Lay R K) (h : (((iand (ishr a0 a1) 1) ≠ 0 → Q (some (aI 0)) I L R K) ∧ ((iand (ishr a0 a1) 1) = 0 → (((0 : Int) ≤ a1 ∧ a1 < (8 : Int))) ∧ (((I 117 a1.toNat) = (-1) → Q (some (aI 1)) I L R K) ∧ ((I 117 a1.toNat) ≠ (-1) → (((0 : Int) ≤ a1 ∧ a1 < (8 : Int))) ∧ (((iand (ishr a0 (I 117 a1.toNat)) 1) ≠ 1 → Q (some (aI 0)) I L R K) ∧ ((iand (ishr a0 (I 117 a1.toNat)) 1) = 1 → Q (some (aI 1)) I L R K))))))) : E sc 150 0 [some (aR (some 77)), some (aI a0), some (aI a1)] [] I L R K Q :=
  e_iload_n mb_150 dX12_mayNext_0 rfl (e_iload_n mb_150 dX12_mayNext_1 rfl (e_ishr mb_150 dX12_mayNext_2 (e_iconst mb_150 dX12_mayNext_3 cv_iconst_1 (e_iand mb_150 dX12_mayNext_4 (e_if mb_150 dX12_mayNext_5 rfl (fun q1 => e_iconst mb_150 dX12_mayNext_36 cv_iconst_0 (e_ireturn mb_150 dX12_mayNext_37 (ri_150 (Or.inl rfl)) (h.1 (cb_ne.1.mp q1)))) (fun q1 => e_aload_n mb_150 dX12_mayNext_8 rfl (e_getr mb_150 dX12_mayNext_9 mf_150.1 fs_49284 fk_12_49 (lk_77 hL) (lr_77_49 hL) (e_iload_n mb_150 dX12_mayNext_12 rfl (e_ial mb_150 dX12_mayNext_13 (lk_117 hL) (ll_117 hL) (h.2 (cb_ne.2.mp q1)).1 rfl (e_iconst mb_150 dX12_mayNext_14 cv_iconst_m1 (e_icmp mb_150 dX12_mayNext_15 rfl (fun q2 => e_iconst mb_150 dX12_mayNext_32 cv_iconst_1 (e_goto mb_150 dX12_mayNext_33 rfl (e_ireturn mb_150 dX12_mayNext_37 (ri_150 (Or.inr rfl)) ((h.2 (cb_ne.2.mp q1)).2.1 (cb_eq.1.mp q2))))) (fun q2 => e_iload_n mb_150 dX12_mayNext_18 rfl (e_aload_n mb_150 dX12_mayNext_19 rfl (e_getr mb_150 dX12_mayNext_20 mf_150.1 fs_49284 fk_12_49 (lk_77 hL) (lr_77_49 hL) (e_iload_n mb_150 dX12_mayNext_23 rfl (e_ial mb_150 dX12_mayNext_24 (lk_117 hL) (ll_117 hL) ((h.2 (cb_ne.2.mp q1)).2.2 (cb_eq.2.mp q2)).1 rfl (e_ishr mb_150 dX12_mayNext_25 (e_iconst mb_150 dX12_mayNext_26 cv_iconst_1 (e_iand mb_150 dX12_mayNext_27 (e_iconst mb_150 dX12_mayNext_28 cv_iconst_1 (e_icmp mb_150 dX12_mayNext_29 rfl (fun q3 => e_iconst mb_150 dX12_mayNext_36 cv_iconst_0 (e_ireturn mb_150 dX12_mayNext_37 (ri_150 (Or.inl rfl)) (((h.2 (cb_ne.2.mp q1)).2.2 (cb_eq.2.mp q2)).2.1 (cb_ne.1.mp q3)))) (fun q3 => e_iconst mb_150 dX12_mayNext_32 cv_iconst_1 (e_goto mb_150 dX12_mayNext_33 rfl (e_ireturn mb_150 dX12_mayNext_37 (ri_150 (Or.inr rfl)) (((h.2 (cb_ne.2.mp q1)).2.2 (cb_eq.2.mp q2)).2.2 (cb_ne.2.mp q3))))))))))))))))))))))))))
theorem v_202 {sc : Nat × (Nat → Int)} {I : IH} {L : LH} {R : RH} {K : KH} {Q : AQ} {a0 a1 : Int} (hL : Lay R K) (hp : (0 ≤ a0 ∧ a0 < 8) ∧ (0 ≤ a1 ∧ a1 < 256) ∧ ∃ n, LsOK I n) (h : Q (some (aI (b2i (mayD I a1.toNat a0.toNat)))) I L R K) : E sc 202 0 [some (aR (some 57)), some (aI a0), some (aI a1), none] [] I L R K Q := by
  obtain ⟨h0, h1, n, hl⟩ := hp
  obtain ⟨d, rfl⟩ : ∃ d : Nat, a0 = (d : Int) := ⟨a0.toNat, by omega⟩
  obtain ⟨s, rfl⟩ : ∃ s : Nat, a1 = (s : Int) := ⟨a1.toNat, by omega⟩
  simp only [Int.toNat_natCast] at h
  have e1 := tb_and s (by omega) d (by omega)
  have b := hl.2.1 d (by omega)
  have e2 : I 117 d ≠ -1 → iand (ishr (s : Int) (I 60 d)) 1 = ((s / 2 ^ (I 117 d).toNat % 2 : Nat) : Int) := fun q => by
    have := tb_and s (by omega) (I 117 d).toNat (by omega)
    rw [show (((I 117 d).toNat : Nat) : Int) = I 60 d by omega] at this
    exact this
  have key : ∀ z : Int, z = b2i (mayD I s d) → Q (some (aI z)) I L R K := fun z e => by rw [e]; exact h
  have yes : mayD I s d → Q (some (aI 1)) I L R K := fun q => key 1 (by unfold b2i; rw [if_pos q])
  have no : ¬ mayD I s d → Q (some (aI 0)) I L R K := fun q => key 0 (by unfold b2i; rw [if_neg q])
  refine w_202_0 hL ?_
  simp only [Int.toNat_natCast]
  refine ⟨h0, fun q1 => ⟨fun q2 => no (fun m => ?_), fun q2 => yes ⟨?_, .inl ?_⟩⟩, fun q1 => ⟨h0, fun q3 => no (fun m => ?_), fun q3 => ⟨fun q4 => no (fun m => ?_), fun q4 => yes ⟨?_, .inr ?_⟩⟩⟩⟩
  · have := m.1; rw [this] at e1; omega
  · rw [e1] at q2; omega
  · omega
  · have e2 := e2 (by omega)
    rw [e2] at q3
    rcases m.2 with g | g
    · omega
    · rw [g] at q3; omega
  · have := m.1; rw [this] at e1; omega
  · rw [e1] at q4; omega
  · have e2 := e2 (by omega)
    rw [e2] at q3; omega
theorem v_150 {sc : Nat × (Nat → Int)} {I : IH} {L : LH} {R : RH} {K : KH} {Q : AQ} {a0 a1 : Int} (hL : Lay R K) (hp : (0 ≤ a1 ∧ a1 < 8) ∧ (0 ≤ a0 ∧ a0 < 256) ∧ ∃ n, LsOK I n) (h : Q (some (aI (b2i (mayD I a0.toNat a1.toNat)))) I L R K) : E sc 150 0 [some (aR (some 77)), some (aI a0), some (aI a1)] [] I L R K Q := by
  obtain ⟨h0, h1, n, hl⟩ := hp
  obtain ⟨d, rfl⟩ : ∃ d : Nat, a1 = (d : Int) := ⟨a1.toNat, by omega⟩
  obtain ⟨s, rfl⟩ : ∃ s : Nat, a0 = (s : Int) := ⟨a0.toNat, by omega⟩
  simp only [Int.toNat_natCast] at h
  have e1 := tb_and s (by omega) d (by omega)
  have b := hl.2.1 d (by omega)
  have e2 : I 117 d ≠ -1 → iand (ishr (s : Int) (I 117 d)) 1 = ((s / 2 ^ (I 117 d).toNat % 2 : Nat) : Int) := fun q => by
    have := tb_and s (by omega) (I 117 d).toNat (by omega)
    rw [show (((I 117 d).toNat : Nat) : Int) = I 117 d by omega] at this
    exact this
  have key : ∀ z : Int, z = b2i (mayD I s d) → Q (some (aI z)) I L R K := fun z e => by rw [e]; exact h
  have yes : mayD I s d → Q (some (aI 1)) I L R K := fun q => key 1 (by unfold b2i; rw [if_pos q])
  have no : ¬ mayD I s d → Q (some (aI 0)) I L R K := fun q => key 0 (by unfold b2i; rw [if_neg q])
  refine w_150_0 hL ?_
  simp only [Int.toNat_natCast]
  refine ⟨fun q1 => no (fun m => ?_), fun q1 => ⟨h0, fun q2 => yes ⟨?_, .inl q2⟩, fun q2 => ⟨h0, fun q3 => no (fun m => ?_), fun q3 => yes ⟨?_, .inr ?_⟩⟩⟩⟩
  · have := m.1; rw [this] at e1; omega
  · rw [e1] at q1; omega
  · have e2 := e2 q2
    rw [e2] at q3
    rcases m.2 with g | g
    · exact q2 g
    · rw [g] at q3; omega
  · rw [e1] at q1; omega
  · have e2 := e2 q2
    rw [e2] at q3; omega
theorem v_203 {sc : Nat × (Nat → Int)} {I : IH} {L : LH} {R : RH} {K : KH} {Q : AQ} {a0 a1 : Int} (hL : Lay R K) (hp : ((0 ≤ a0 ∧ a0 < 8) ∧ (0 ≤ a1 ∧ a1 < 256) ∧ a1.toNat / 2 ^ a0.toNat % 2 = 0) ∧ (∃ n, LsOK I n) ∧ 0 ≤ I 61 (a1.toNat + 2 ^ a0.toNat) ∧ I 61 (a1.toNat + 2 ^ a0.toNat) ≤ 85536) (h : Q (some (aI (candD I (fun j => I 61 j) a1.toNat a0.toNat))) I L R K) : E sc 203 0 [some (aR (some 57)), some (aI a0), some (aI a1), none, none] [] I L R K Q := by
  obtain ⟨⟨h0, h1, hz⟩, ⟨n, hl⟩, ha⟩ := hp
  obtain ⟨d, rfl⟩ : ∃ d : Nat, a0 = (d : Int) := ⟨a0.toNat, by omega⟩
  obtain ⟨s, rfl⟩ : ∃ s : Nat, a1 = (s : Int) := ⟨a1.toNat, by omega⟩
  simp only [Int.toNat_natCast] at h hz ha
  have eo := tb_or s (by omega) d (by omega) hz
  have b := hl.2.1 d (by omega)
  have hc := cand_b (A := fun j => I 61 j) (s := s) hl (show d < 8 by omega)
  have ht := timD_b (s := s) hl
  have h128 := tb_d d (by omega)
  have hlt : s + 2 ^ d < 256 := tb_lt 8 (by omega) s (by omega) d (by omega) hz
  have part : ∀ m, m ≤ 8 → 0 ≤ sumTo (fun j => if s / 2 ^ j % 2 = 1 then I 115 j else 0) m ∧ sumTo (fun j => if s / 2 ^ j % 2 = 1 then I 115 j else 0) m ≤ 12 * m := by
    intro m
    induction m with
    | zero => intro _; exact ⟨Int.le_refl _, Int.le_refl _⟩
    | succ m ih =>
      intro hm
      have h1 := ih (by omega)
      have h2 := hl.2.1 m (by omega)
      rw [sumTo_succ]
      show 0 ≤ _ + (if s / 2 ^ m % 2 = 1 then I 115 m else 0) ∧ _ + (if s / 2 ^ m % 2 = 1 then I 115 m else 0) ≤ _
      split <;> omega
  have key : (fun i : Nat => ∀ x k : Int, x = I 58 d + sumTo (fun j => if s / 2 ^ j % 2 = 1 then I 115 j else 0) i → k = (i : Int) → E sc 203 10 [some (aR (some 57)), some (aI (d : Int)), some (aI (s : Int)), some (aI x), some (aI k)] [] I L R K Q) 0 := by
    refine loop_up (C := fun i : Nat => ∀ x k : Int, x = I 58 d + sumTo (fun j => if s / 2 ^ j % 2 = 1 then I 115 j else 0) i → k = (i : Int) → E sc 203 10 [some (aR (some 57)), some (aI (d : Int)), some (aI (s : Int)), some (aI x), some (aI k)] [] I L R K Q) 8 ?_ ?_
    · intro i hi hc x k hx hk
      subst hk
      have e1 := tb_and s (by omega) i hi
      have p1 := part i (by omega)
      have m1 := hl.2.1 i hi
      refine w_203_10 hL ?_
      simp only [Int.toNat_natCast]
      refine ⟨fun q1 => by omega, fun q1 => ⟨fun q2 => ⟨by omega, hc _ _ ?_ (by omega)⟩, fun q2 => ⟨by omega, by omega, by omega, hc _ _ ?_ (by omega)⟩⟩⟩
      · rw [sumTo_succ]
        show x = I 58 d + (sumTo _ i + (if s / 2 ^ i % 2 = 1 then I 115 i else 0))
        rw [if_neg (fun q => by rw [e1, q] at q2; omega)]; omega
      · rw [sumTo_succ]
        show x + I 58 i = I 58 d + (sumTo _ i + (if s / 2 ^ i % 2 = 1 then I 115 i else 0))
        rw [if_pos (by rw [e1] at q2; omega)]; omega
    · intro x k hx hk
      have hx : x = I 58 d + timD I s := hx
      have ex : x * I 59 d = (timD I s + I 115 d) * I 116 d := by rw [hx, b.1, b.2.2.2.1, Int.add_comm]
      refine w_203_10 hL ?_
      simp only [Int.toNat_natCast]
      rw [eo, Int.toNat_natCast, ex]
      exact ⟨fun q1 => ⟨by omega, by omega, by omega, by omega, h⟩, fun q1 => by omega⟩
  refine w_203_0 hL ⟨h0, ?_⟩
  exact key _ _ (by rw [Int.toNat_natCast]; show _ = I 58 d + 0; omega) rfl
theorem v_151x {sc : Nat × (Nat → Int)} {I : IH} {L : LH} {R : RH} {K : KH} {Q : AQ} {a0 : Int} (hL : Lay R K) (hp : LsOK I (I 77 18).toNat ∧ 0 ≤ a0 ∧ a0.toNat < 2 ^ (I 77 18).toNat) (h : Q (some (aI (timD I a0.toNat))) I L R K) : E sc 151 0 [some (aR (some 77)), some (aI a0), none, none] [] I L R K Q := by
  obtain ⟨hl, h0, h1⟩ := hp
  obtain ⟨s, rfl⟩ : ∃ s : Nat, a0 = (s : Int) := ⟨a0.toNat, by omega⟩
  simp only [Int.toNat_natCast] at h h1
  have h9 := hl.1
  have h2 := tb_256 _ h9
  have e : timD I s = sumTo (fun (j : Nat) => (if iand (ishr (s : Int) (j : Int)) 1 = 1 then I 115 j else 0 : Int)) (I 77 18).toNat := by
    have z : ∀ k, (I 77 18).toNat ≤ k → k ≤ 8 → sumTo (fun j => if s / 2 ^ j % 2 = 1 then I 115 j else 0) k = sumTo (fun j => if s / 2 ^ j % 2 = 1 then I 115 j else 0) (I 77 18).toNat := by
      intro k
      induction k with
      | zero => intro g1 g2; rw [show (I 77 18).toNat = 0 by omega]
      | succ k ih =>
        intro g1 g2
        by_cases q : (I 77 18).toNat = k + 1
        · rw [q]
        · rw [sumTo_succ, ih (by omega) (by omega)]
          show _ + (if s / 2 ^ k % 2 = 1 then I 115 k else 0) = _
          rw [if_neg (fun g => by have := tb_z _ h9 s h1 k (by omega) (by omega); omega)]; omega
    rw [timD, z 8 (by omega) (by omega)]
    refine sumTo_congr _ (fun j hj => ?_)
    have := tb_and s (by omega) j (by omega)
    rw [this]
    by_cases q : s / 2 ^ j % 2 = 1
    · rw [if_pos q, if_pos (by rw [q]; rfl)]
    · rw [if_neg q, if_neg (by omega)]
  rw [e] at h
  exact v_151 hL (by have := hl.2.2.1; omega) (fun j hj => by have := hl.2.1 j hj; omega) h
theorem w_199_0 {sc : Nat × (Nat → Int)} {I : IH} {L : LH} {R : RH} {K : KH} {Q : AQ} {a0 : Int} (hL : Lay R K) (h : ((-2147483648 : Int) ≤ (ishl 1 a0) - 1 ∧ (ishl 1 a0) - 1 < (2147483648 : Int)) ∧ (((0 : Int) ≤ ((ishl 1 a0) - 1) ∧ ((ishl 1 a0) - 1) < (256 : Int))) ∧ ((-2147483648 : Int) ≤ ((ishl 1 a0) - 1) - 1 ∧ ((ishl 1 a0) - 1) - 1 < (2147483648 : Int)) ∧ E sc 199 17 [some (aR (some 57)), some (aI a0), some (aI ((ishl 1 a0) - 1)), some (aI (((ishl 1 a0) - 1) - 1)), none, none] [] (setF I 61 (((ishl 1 a0) - 1).toNat) 0) L R K Q) : E sc 199 0 [some (aR (some 57)), some (aI a0), none, none, none, none] [] I L R K Q :=
  e_iconst mb_199 dX2_leastWaiting_0 cv_iconst_1 (e_iload_n mb_199 dX2_leastWaiting_1 rfl (e_ishl mb_199 dX2_leastWaiting_2 (e_iconst mb_199 dX2_leastWaiting_3 cv_iconst_1 (e_isub mb_199 dX2_leastWaiting_4 h.1 (e_istore_n (l1 := [some (aR (some 57)), some (aI a0), some (aI ((ishl 1 a0) - 1)), none, none, none]) mb_199 dX2_leastWaiting_5 rfl (e_aload_n mb_199 dX2_leastWaiting_6 rfl (e_getr mb_199 dX2_leastWaiting_7 mf_199.1 fs_8213 fk_2_3 (lk_57 hL) (lr_57_3 hL) (e_iload_n mb_199 dX2_leastWaiting_10 rfl (e_iconst mb_199 dX2_leastWaiting_11 cv_iconst_0 (e_iastore mb_199 dX2_leastWaiting_12 (lk_61 hL) (ll_61 hL) h.2.1 (e_iload_n mb_199 dX2_leastWaiting_13 rfl (e_iconst mb_199 dX2_leastWaiting_14 cv_iconst_1 (e_isub mb_199 dX2_leastWaiting_15 h.2.2.1 (e_istore_n (l1 := [some (aR (some 57)), some (aI a0), some (aI ((ishl 1 a0) - 1)), some (aI (((ishl 1 a0) - 1) - 1)), none, none]) mb_199 dX2_leastWaiting_16 rfl h.2.2.2))))))))))))))
theorem w_199_17 {sc : Nat × (Nat → Int)} {I : IH} {L : LH} {R : RH} {K : KH} {Q : AQ} {x1 x3 : Int} {o2 o4 o5 : Option AV} (no2 : nL o2) (no4 : nL o4) (no5 : nL o5) (hL : Lay R K) (h : ((x3 < 0 → Q (some (aI (I 61 0))) I L R K) ∧ (0 ≤ x3 → E sc 199 28 [some (aR (some 57)), some (aI x1), o2, some (aI x3), some (aI 1000000), some (aI 0)] [] I L R K Q))) : E sc 199 17 [some (aR (some 57)), some (aI x1), o2, some (aI x3), o4, o5] [] I L R K Q :=
  e_iload_n mb_199 dX2_leastWaiting_17 rfl (e_if mb_199 dX2_leastWaiting_18 rfl (fun q1 => e_aload_n mb_199 dX2_leastWaiting_78 rfl (e_getr mb_199 dX2_leastWaiting_79 mf_199.1 fs_8213 fk_2_3 (lk_57 hL) (lr_57_3 hL) (e_iconst mb_199 dX2_leastWaiting_82 cv_iconst_0 (e_ial mb_199 dX2_leastWaiting_83 (lk_61 hL) (ll_61 hL) ⟨by decide, by decide⟩ rfl (e_ireturn mb_199 dX2_leastWaiting_84 ri_199 (h.1 (cb_lt.1.mp q1))))))) (fun q1 => e_ldc mb_199 dX2_leastWaiting_21 (by rw [mf_199.1]; exact ls_8222) rfl (e_istore (l1 := [some (aR (some 57)), some (aI x1), o2, some (aI x3), some (aI 1000000), o5]) mb_199 dX2_leastWaiting_23 rfl (e_iconst mb_199 dX2_leastWaiting_25 cv_iconst_0 (e_istore (l1 := [some (aR (some 57)), some (aI x1), o2, some (aI x3), some (aI 1000000), some (aI 0)]) mb_199 dX2_leastWaiting_26 rfl ((h.2 (cb_lt.2.mp q1))))))))
theorem w_199_28 {sc : Nat × (Nat → Int)} {I : IH} {L : LH} {R : RH} {K : KH} {Q : AQ} {x1 x3 x4 x5 : Int} {o2 : Option AV} (no2 : nL o2) (hL : Lay R K) (h : ((x1 ≤ x5 → (((0 : Int) ≤ x3 ∧ x3 < (256 : Int))) ∧ ((-2147483648 : Int) ≤ x3 + (-1) ∧ x3 + (-1) < (2147483648 : Int)) ∧ E sc 199 17 [some (aR (some 57)), some (aI x1), o2, some (aI (x3 + (-1))), some (aI x4), some (aI x5)] [] (setF I 61 x3.toNat x4) L R K Q) ∧ (x5 < x1 → (((0 ≤ x5 ∧ x5 < 8) ∧ (0 ≤ x3 ∧ x3 < 256) ∧ ∃ n, LsOK I n)) ∧ ((mayD I x3.toNat x5.toNat → ((((0 ≤ x5 ∧ x5 < 8) ∧ (0 ≤ x3 ∧ x3 < 256) ∧ x3.toNat / 2 ^ x5.toNat % 2 = 0) ∧ (∃ n, LsOK I n) ∧ 0 ≤ I 61 (x3.toNat + 2 ^ x5.toNat) ∧ I 61 (x3.toNat + 2 ^ x5.toNat) ≤ 85536)) ∧ ((-2147483648 : Int) ≤ x5 + 1 ∧ x5 + 1 < (2147483648 : Int)) ∧ E sc 199 28 [some (aR (some 57)), some (aI x1), o2, some (aI x3), some (aI (min x4 (candD I (fun j => I 61 j) x3.toNat x5.toNat))), some (aI (x5 + 1))] [] I L R K Q) ∧ (¬(mayD I x3.toNat x5.toNat) → ((-2147483648 : Int) ≤ x5 + 1 ∧ x5 + 1 < (2147483648 : Int)) ∧ E sc 199 28 [some (aR (some 57)), some (aI x1), o2, some (aI x3), some (aI x4), some (aI (x5 + 1))] [] I L R K Q))))) : E sc 199 28 [some (aR (some 57)), some (aI x1), o2, some (aI x3), some (aI x4), some (aI x5)] [] I L R K Q :=
  e_iload mb_199 dX2_leastWaiting_28 rfl (e_iload_n mb_199 dX2_leastWaiting_30 rfl (e_icmp mb_199 dX2_leastWaiting_31 rfl (fun q1 => e_aload_n mb_199 dX2_leastWaiting_64 rfl (e_getr mb_199 dX2_leastWaiting_65 mf_199.1 fs_8213 fk_2_3 (lk_57 hL) (lr_57_3 hL) (e_iload_n mb_199 dX2_leastWaiting_68 rfl (e_iload mb_199 dX2_leastWaiting_69 rfl (e_iastore mb_199 dX2_leastWaiting_71 (lk_61 hL) (ll_61 hL) (h.1 (cb_ge.1.mp q1)).1 (e_iinc (l1 := [some (aR (some 57)), some (aI x1), o2, some (aI (x3 + (-1))), some (aI x4), some (aI x5)]) mb_199 dX2_leastWaiting_72 rfl (h.1 (cb_ge.1.mp q1)).2.1 (aset_nl no2 rfl rfl rfl) (e_goto mb_199 dX2_leastWaiting_75 rfl ((h.1 (cb_ge.1.mp q1)).2.2)))))))) (fun q1 => e_aload_n mb_199 dX2_leastWaiting_34 rfl (e_iload mb_199 dX2_leastWaiting_35 rfl (e_iload_n mb_199 dX2_leastWaiting_37 rfl (e_callV mb_199 dX2_leastWaiting_38 mf_199 mf_202 cs_8223 rfl rfl rfl rfl (lk_57 hL) rfl (v_202 hL (h.2 (cb_ge.2.mp q1)).1 (show E _ _ _ _ (_ :: _) _ _ _ _ _ from e_ifb_eq mb_199 dX2_leastWaiting_41 rfl ⟨fun q2 => e_iload mb_199 dX2_leastWaiting_44 rfl (e_aload_n mb_199 dX2_leastWaiting_46 rfl (e_iload mb_199 dX2_leastWaiting_47 rfl (e_iload_n mb_199 dX2_leastWaiting_49 rfl (e_callV mb_199 dX2_leastWaiting_50 mf_199 mf_203 cs_8227 rfl rfl rfl rfl (lk_57 hL) rfl (v_203 hL ((h.2 (cb_ge.2.mp q1)).2.1 q2).1 (show E _ _ _ _ (_ :: _) _ _ _ _ _ from e_min mb_199 dX2_leastWaiting_53 mf_199 cs_8231 rfl rfl (e_istore (l1 := [some (aR (some 57)), some (aI x1), o2, some (aI x3), some (aI (min x4 (candD I (fun j => I 61 j) x3.toNat x5.toNat))), some (aI x5)]) mb_199 dX2_leastWaiting_56 rfl (e_iinc (l1 := [some (aR (some 57)), some (aI x1), o2, some (aI x3), some (aI (min x4 (candD I (fun j => I 61 j) x3.toNat x5.toNat))), some (aI (x5 + 1))]) mb_199 dX2_leastWaiting_58 rfl ((h.2 (cb_ge.2.mp q1)).2.1 q2).2.1 rfl (e_goto mb_199 dX2_leastWaiting_61 rfl (((h.2 (cb_ge.2.mp q1)).2.1 q2).2.2)))))))))), fun q2 => e_iinc (l1 := [some (aR (some 57)), some (aI x1), o2, some (aI x3), some (aI x4), some (aI (x5 + 1))]) mb_199 dX2_leastWaiting_58 rfl ((h.2 (cb_ge.2.mp q1)).2.2 q2).1 rfl (e_goto mb_199 dX2_leastWaiting_61 rfl (((h.2 (cb_ge.2.mp q1)).2.2 q2).2))⟩))))))))
theorem v_199 {sc : Nat × (Nat → Int)} {I : IH} {L : LH} {R : RH} {K : KH} {Q : AQ} {a0 : Int} (hL : Lay R K) (hp : LsOK I a0.toNat ∧ 1 ≤ a0) (h : ∀ f, TabF I a0.toNat 1000000 0 f → Q (some (aI (f 0))) (tabF I 61 f) L R K) : E sc 199 0 [some (aR (some 57)), some (aI a0), none, none, none, none] [] I L R K Q := by
  obtain ⟨hl, h0⟩ := hp
  obtain ⟨n, rfl⟩ : ∃ n : Nat, a0 = (n : Int) := ⟨a0.toNat, by omega⟩
  simp only [Int.toNat_natCast] at h hl
  have h9 := hl.1
  have hN := tb_256 n h9
  have key : ∀ m, m ≤ 2 ^ n - 1 → ∀ f o2 o4 o5 x3, nL o2 → nL o4 → nL o5 → TabF I n 1000000 m f → x3 = (m : Int) - 1 → E sc 199 17 [some (aR (some 57)), some (aI (n : Int)), o2, some (aI x3), o4, o5] [] (tabF I 61 f) L R K Q := by
    intro m
    induction m with
    | zero =>
      intro hm f o2 o4 o5 x3 n2 n4 n5 hf hx
      exact w_199_17 n2 n4 n5 hL ⟨fun q1 => h f hf, fun q1 => by omega⟩
    | succ m ih =>
      intro hm f o2 o4 o5 x3 n2 n4 n5 hf hx
      have hx : x3 = (m : Int) := by omega
      subst hx
      have hs : m < 2 ^ n - 1 := by omega
      have inner : (fun k : Nat => ∀ x4 x5 : Int, x4 = minD I f m 1000000 k → x5 = (k : Int) → E sc 199 28 [some (aR (some 57)), some (aI (n : Int)), o2, some (aI (m : Int)), some (aI x4), some (aI x5)] [] (tabF I 61 f) L R K Q) 0 := by
        refine loop_up (C := fun k : Nat => ∀ x4 x5 : Int, x4 = minD I f m 1000000 k → x5 = (k : Int) → E sc 199 28 [some (aR (some 57)), some (aI (n : Int)), o2, some (aI (m : Int)), some (aI x4), some (aI x5)] [] (tabF I 61 f) L R K Q) n ?_ ?_
        · intro k hk hc x4 x5 h4 h5
          subst h5
          refine w_199_28 n2 hL ?_
          simp only [Int.toNat_natCast]
          refine ⟨fun q1 => by omega, fun q1 => ⟨⟨by omega, by omega, n, hl⟩, fun q2 => ⟨?_, by omega, hc _ _ ?_ (by omega)⟩, fun q2 => ⟨by omega, hc _ _ ?_ (by omega)⟩⟩⟩
          · have q2 : mayD I m k := q2
            have g := may_in h9 hs hk q2
            exact ⟨⟨by omega, by omega, q2.1⟩, ⟨n, hl⟩, tab_b2 hl (by omega) hf (by omega) (by omega)⟩
          · have q2 : mayD I m k := q2
            rw [minD, if_pos q2, h4]
            rfl
          · have q2 : ¬ mayD I m k := q2
            rw [minD, if_neg q2, h4]
        · intro x4 x5 h4 h5
          subst h5
          refine w_199_28 n2 hL ?_
          simp only [Int.toNat_natCast]
          refine ⟨fun q1 => ⟨by omega, by omega, ?_⟩, fun q1 => by omega⟩
          rw [tabF_set]
          exact ih (by omega) _ _ _ _ _ n2 nl_i nl_i (hf.upd hs h4) (by omega)
      exact w_199_17 n2 n4 n5 hL ⟨fun q1 => by omega, fun q1 => inner _ _ rfl rfl⟩
  refine w_199_0 hL ?_
  rw [tb_shl n h9]
  refine ⟨by omega, by omega, by omega, ?_⟩
  have e0 : setF I 61 (((2 ^ n : Nat) : Int) - 1).toNat 0 = tabF I 61 (updF (fun j => I 61 j) (2 ^ n - 1) 0) := by
    rw [← tabF_set, tabF_id, show (((2 ^ n : Nat) : Int) - 1).toNat = 2 ^ n - 1 by omega]
  rw [e0]
  exact key (2 ^ n - 1) (Nat.le_refl _) _ _ _ _ _ nl_i nl_n nl_n ⟨by unfold updF; rw [if_pos rfl], fun s h1 h2 => by omega⟩ (by omega)
theorem w_201_0 {sc : Nat × (Nat → Int)} {I : IH} {L : LH} {R : RH} {K : KH} {Q : AQ} {a0 a1 : Int} (hL : Lay R K) (h : E sc 201 2 [some (aR (some 57)), some (aI a0), some (aI a1), some (aI 0)] [] I L R K Q) : E sc 201 0 [some (aR (some 57)), some (aI a0), some (aI a1), none] [] I L R K Q :=
  e_iconst mb_201 dX2_nextTaught_0 cv_iconst_0 (e_istore_n (l1 := [some (aR (some 57)), some (aI a0), some (aI a1), some (aI 0)]) mb_201 dX2_nextTaught_1 rfl h)
theorem w_201_2 {sc : Nat × (Nat → Int)} {I : IH} {L : LH} {R : RH} {K : KH} {Q : AQ} {x1 x2 x3 : Int} (hL : Lay R K) (h : ((x2 ≤ x3 → Q (some (aI 0)) I L R K) ∧ (x3 < x2 → (((0 ≤ x3 ∧ x3 < 8) ∧ (0 ≤ x1 ∧ x1 < 256) ∧ ∃ n, LsOK I n)) ∧ ((mayD I x1.toNat x3.toNat → ((((0 ≤ x3 ∧ x3 < 8) ∧ (0 ≤ x1 ∧ x1 < 256) ∧ x1.toNat / 2 ^ x3.toNat % 2 = 0) ∧ (∃ n, LsOK I n) ∧ 0 ≤ I 61 (x1.toNat + 2 ^ x3.toNat) ∧ I 61 (x1.toNat + 2 ^ x3.toNat) ≤ 85536)) ∧ (((0 : Int) ≤ x1 ∧ x1 < (256 : Int))) ∧ (((candD I (fun j => I 61 j) x1.toNat x3.toNat) ≠ (I 61 x1.toNat) → ((-2147483648 : Int) ≤ x3 + 1 ∧ x3 + 1 < (2147483648 : Int)) ∧ E sc 201 2 [some (aR (some 57)), some (aI x1), some (aI x2), some (aI (x3 + 1))] [] I L R K Q) ∧ ((candD I (fun j => I 61 j) x1.toNat x3.toNat) = (I 61 x1.toNat) → Q (some (aI x3)) I L R K))) ∧ (¬(mayD I x1.toNat x3.toNat) → ((-2147483648 : Int) ≤ x3 + 1 ∧ x3 + 1 < (2147483648 : Int)) ∧ E sc 201 2 [some (aR (some 57)), some (aI x1), some (aI x2), some (aI (x3 + 1))] [] I L R K Q))))) : E sc 201 2 [some (aR (some 57)), some (aI x1), some (aI x2), some (aI x3)] [] I L R K Q :=
  e_iload_n mb_201 dX2_nextTaught_2 rfl (e_iload_n mb_201 dX2_nextTaught_3 rfl (e_icmp mb_201 dX2_nextTaught_4 rfl (fun q1 => e_iconst mb_201 dX2_nextTaught_39 cv_iconst_0 (e_ireturn mb_201 dX2_nextTaught_40 ri_201 (h.1 (cb_ge.1.mp q1)))) (fun q1 => e_aload_n mb_201 dX2_nextTaught_7 rfl (e_iload_n mb_201 dX2_nextTaught_8 rfl (e_iload_n mb_201 dX2_nextTaught_9 rfl (e_callV mb_201 dX2_nextTaught_10 mf_201 mf_202 cs_8223 rfl rfl rfl rfl (lk_57 hL) rfl (v_202 hL (h.2 (cb_ge.2.mp q1)).1 (show E _ _ _ _ (_ :: _) _ _ _ _ _ from e_ifb_eq mb_201 dX2_nextTaught_13 rfl ⟨fun q2 => e_aload_n mb_201 dX2_nextTaught_16 rfl (e_iload_n mb_201 dX2_nextTaught_17 rfl (e_iload_n mb_201 dX2_nextTaught_18 rfl (e_callV mb_201 dX2_nextTaught_19 mf_201 mf_203 cs_8227 rfl rfl rfl rfl (lk_57 hL) rfl (v_203 hL ((h.2 (cb_ge.2.mp q1)).2.1 q2).1 (show E _ _ _ _ (_ :: _) _ _ _ _ _ from e_aload_n mb_201 dX2_nextTaught_22 rfl (e_getr mb_201 dX2_nextTaught_23 mf_201.1 fs_8213 fk_2_3 (lk_57 hL) (lr_57_3 hL) (e_iload_n mb_201 dX2_nextTaught_26 rfl (e_ial mb_201 dX2_nextTaught_27 (lk_61 hL) (ll_61 hL) ((h.2 (cb_ge.2.mp q1)).2.1 q2).2.1 rfl (e_icmp mb_201 dX2_nextTaught_28 rfl (fun q3 => e_iinc (l1 := [some (aR (some 57)), some (aI x1), some (aI x2), some (aI (x3 + 1))]) mb_201 dX2_nextTaught_33 rfl (((h.2 (cb_ge.2.mp q1)).2.1 q2).2.2.1 (cb_ne.1.mp q3)).1 rfl (e_goto mb_201 dX2_nextTaught_36 rfl ((((h.2 (cb_ge.2.mp q1)).2.1 q2).2.2.1 (cb_ne.1.mp q3)).2))) (fun q3 => e_iload_n mb_201 dX2_nextTaught_31 rfl (e_ireturn mb_201 dX2_nextTaught_32 ri_201 (((h.2 (cb_ge.2.mp q1)).2.1 q2).2.2.2 (cb_ne.2.mp q3))))))))))))), fun q2 => e_iinc (l1 := [some (aR (some 57)), some (aI x1), some (aI x2), some (aI (x3 + 1))]) mb_201 dX2_nextTaught_33 rfl ((h.2 (cb_ge.2.mp q1)).2.2 q2).1 rfl (e_goto mb_201 dX2_nextTaught_36 rfl (((h.2 (cb_ge.2.mp q1)).2.2 q2).2))⟩))))))))
theorem v_201 {sc : Nat × (Nat → Int)} {I : IH} {L : LH} {R : RH} {K : KH} {Q : AQ} {a0 a1 : Int} (hL : Lay R K) (hp : LsOK I a1.toNat ∧ (0 ≤ a0 ∧ 0 ≤ a1) ∧ TabF I a1.toNat 1000000 0 (fun j => I 61 j) ∧ a0.toNat < 2 ^ a1.toNat - 1) (h : Q (some (aI ((nxD I a1.toNat (fun j => I 61 j) a0.toNat : Nat) : Int))) I L R K) : E sc 201 0 [some (aR (some 57)), some (aI a0), some (aI a1), none] [] I L R K Q := by
  obtain ⟨hl, h0, hf, hs⟩ := hp
  obtain ⟨n, rfl⟩ : ∃ n : Nat, a1 = (n : Int) := ⟨a1.toNat, by omega⟩
  obtain ⟨s, rfl⟩ : ∃ s : Nat, a0 = (s : Int) := ⟨a0.toNat, by omega⟩
  simp only [Int.toNat_natCast] at h hl hf hs
  have h9 := hl.1
  have hN := tb_256 n h9
  obtain ⟨p1, ⟨p2, p3⟩, p4⟩ := nxD_p hl (by omega) hf hs
  have pre : ∀ k : Nat, k < n → mayD I s k → 0 ≤ I 61 (s + 2 ^ k) ∧ I 61 (s + 2 ^ k) ≤ 85536 := fun k hk hm => by
    have g := may_in h9 hs hk hm
    exact tab_b2 hl (by omega) hf (by omega) (by omega)
  have key : (fun k : Nat => ∀ x : Int, x = (k : Int) → E sc 201 2 [some (aR (some 57)), some (aI (s : Int)), some (aI (n : Int)), some (aI x)] [] I L R K Q) 0 := by
    refine loop_up (C := fun k : Nat => ∀ x : Int, x = (k : Int) → E sc 201 2 [some (aR (some 57)), some (aI (s : Int)), some (aI (n : Int)), some (aI x)] [] I L R K Q) (nxD I n (fun j => I 61 j) s) ?_ ?_
    · intro k hk hc x hx
      subst hx
      refine w_201_2 hL ?_
      simp only [Int.toNat_natCast]
      exact ⟨fun q1 => by omega, fun q1 => ⟨⟨by omega, by omega, n, hl⟩, fun q2 => ⟨⟨⟨by omega, by omega, q2.1⟩, ⟨n, hl⟩, pre k (by omega) q2⟩, by omega, fun q3 => ⟨by omega, hc _ (by omega)⟩, fun q3 => absurd ⟨q2, q3⟩ (p4 k hk)⟩, fun q2 => ⟨by omega, hc _ (by omega)⟩⟩⟩
    · intro x hx
      subst hx
      refine w_201_2 hL ?_
      simp only [Int.toNat_natCast]
      exact ⟨fun q1 => by omega, fun q1 => ⟨⟨by omega, by omega, n, hl⟩, fun q2 => ⟨⟨⟨by omega, by omega, q2.1⟩, ⟨n, hl⟩, pre _ (by omega) q2⟩, by omega, fun q3 => absurd p3 q3, fun q3 => h⟩, fun q2 => absurd p2 q2⟩⟩
  exact w_201_0 hL (key _ rfl)
theorem w_200_0 {sc : Nat × (Nat → Int)} {I : IH} {L : LH} {R : RH} {K : KH} {Q : AQ} {a0 a1 : Int} (hL : Lay R K) (h : ((LsOK I a1.toNat ∧ 1 ≤ a1)) ∧ (∀ (f1 : Nat → Int), (TabF I a1.toNat 1000000 0 f1) → E sc 200 11 [some (aR (some 57)), some (aI a0), some (aI a1), some (aI 0), some (aI 0)] [] (tabF I 61 f1) L R K Q)) : E sc 200 0 [some (aR (some 57)), some (aI a0), some (aI a1), none, none] [] I L R K Q :=
  e_aload_n mb_200 dX2_taughtAt_0 rfl (e_iload_n mb_200 dX2_taughtAt_1 rfl (e_callV mb_200 dX2_taughtAt_2 mf_200 mf_199 cs_8236 rfl rfl rfl rfl (lk_57 hL) rfl (v_199 hL h.1 (fun f1 hp2 => (show E _ _ _ _ [aI (f1 0)] _ _ _ _ _ from e_pop mb_200 dX2_taughtAt_5 rfl (e_iconst mb_200 dX2_taughtAt_6 cv_iconst_0 (e_istore_n (l1 := [some (aR (some 57)), some (aI a0), some (aI a1), some (aI 0), none]) mb_200 dX2_taughtAt_7 rfl (e_iconst mb_200 dX2_taughtAt_8 cv_iconst_0 (e_istore (l1 := [some (aR (some 57)), some (aI a0), some (aI a1), some (aI 0), some (aI 0)]) mb_200 dX2_taughtAt_9 rfl ((h.2 f1 hp2)))))))))))
theorem w_200_11 {sc : Nat × (Nat → Int)} {I : IH} {L : LH} {R : RH} {K : KH} {Q : AQ} {x1 x2 x3 x4 : Int} (hL : Lay R K) (h : ((x1 ≤ x4 → ((LsOK I x2.toNat ∧ (0 ≤ x3 ∧ 0 ≤ x2) ∧ TabF I x2.toNat 1000000 0 (fun j => I 61 j) ∧ x3.toNat < 2 ^ x2.toNat - 1)) ∧ Q (some (aI ((nxD I x2.toNat (fun j => I 61 j) x3.toNat : Nat) : Int))) I L R K) ∧ (x4 < x1 → ((LsOK I x2.toNat ∧ (0 ≤ x3 ∧ 0 ≤ x2) ∧ TabF I x2.toNat 1000000 0 (fun j => I 61 j) ∧ x3.toNat < 2 ^ x2.toNat - 1)) ∧ ((-2147483648 : Int) ≤ x4 + 1 ∧ x4 + 1 < (2147483648 : Int)) ∧ E sc 200 11 [some (aR (some 57)), some (aI x1), some (aI x2), some (aI (ior x3 (ishl 1 ((nxD I x2.toNat (fun j => I 61 j) x3.toNat : Nat) : Int)))), some (aI (x4 + 1))] [] I L R K Q))) : E sc 200 11 [some (aR (some 57)), some (aI x1), some (aI x2), some (aI x3), some (aI x4)] [] I L R K Q :=
  e_iload mb_200 dX2_taughtAt_11 rfl (e_iload_n mb_200 dX2_taughtAt_13 rfl (e_icmp mb_200 dX2_taughtAt_14 rfl (fun q1 => e_aload_n mb_200 dX2_taughtAt_34 rfl (e_iload_n mb_200 dX2_taughtAt_35 rfl (e_iload_n mb_200 dX2_taughtAt_36 rfl (e_callV mb_200 dX2_taughtAt_37 mf_200 mf_201 cs_8240 rfl rfl rfl rfl (lk_57 hL) rfl (v_201 hL (h.1 (cb_ge.1.mp q1)).1 (show E _ _ _ _ (_ :: _) _ _ _ _ _ from e_ireturn mb_200 dX2_taughtAt_40 ri_200 (h.1 (cb_ge.1.mp q1)).2)))))) (fun q1 => e_iload_n mb_200 dX2_taughtAt_17 rfl (e_iconst mb_200 dX2_taughtAt_18 cv_iconst_1 (e_aload_n mb_200 dX2_taughtAt_19 rfl (e_iload_n mb_200 dX2_taughtAt_20 rfl (e_iload_n mb_200 dX2_taughtAt_21 rfl (e_callV mb_200 dX2_taughtAt_22 mf_200 mf_201 cs_8240 rfl rfl rfl rfl (lk_57 hL) rfl (v_201 hL (h.2 (cb_ge.2.mp q1)).1 (show E _ _ _ _ (_ :: _) _ _ _ _ _ from e_ishl mb_200 dX2_taughtAt_25 (e_ior mb_200 dX2_taughtAt_26 (e_istore_n (l1 := [some (aR (some 57)), some (aI x1), some (aI x2), some (aI (ior x3 (ishl 1 ((nxD I x2.toNat (fun j => I 61 j) x3.toNat : Nat) : Int)))), some (aI x4)]) mb_200 dX2_taughtAt_27 rfl (e_iinc (l1 := [some (aR (some 57)), some (aI x1), some (aI x2), some (aI (ior x3 (ishl 1 ((nxD I x2.toNat (fun j => I 61 j) x3.toNat : Nat) : Int)))), some (aI (x4 + 1))]) mb_200 dX2_taughtAt_28 rfl (h.2 (cb_ge.2.mp q1)).2.1 rfl (e_goto mb_200 dX2_taughtAt_31 rfl ((h.2 (cb_ge.2.mp q1)).2.2)))))))))))))))
theorem v_200 {sc : Nat × (Nat → Int)} {I : IH} {L : LH} {R : RH} {K : KH} {Q : AQ} {a0 a1 : Int} (hL : Lay R K) (hp : LsOK I a1.toNat ∧ 0 ≤ a0 ∧ a0 < a1) (h : ∀ f, TabF I a1.toNat 1000000 0 f → Q (some (aI ((nxD I a1.toNat f (rowS I a1.toNat f a0.toNat) : Nat) : Int))) (tabF I 61 f) L R K) : E sc 200 0 [some (aR (some 57)), some (aI a0), some (aI a1), none, none] [] I L R K Q := by
  obtain ⟨hl, h0, h1⟩ := hp
  obtain ⟨n, rfl⟩ : ∃ n : Nat, a1 = (n : Int) := ⟨a1.toNat, by omega⟩
  obtain ⟨i, rfl⟩ : ∃ i : Nat, a0 = (i : Int) := ⟨a0.toNat, by omega⟩
  simp only [Int.toNat_natCast] at h hl
  have h9 := hl.1
  have hN := tb_256 n h9
  refine w_200_0 hL ?_
  simp only [Int.toNat_natCast]
  refine ⟨⟨hl, by omega⟩, fun f hf => ?_⟩
  have key : (fun k : Nat => ∀ x y : Int, x = ((rowS I n f k : Nat) : Int) → y = (k : Int) → E sc 200 11 [some (aR (some 57)), some (aI (i : Int)), some (aI (n : Int)), some (aI x), some (aI y)] [] (tabF I 61 f) L R K Q) 0 := by
    refine loop_up (C := fun k : Nat => ∀ x y : Int, x = ((rowS I n f k : Nat) : Int) → y = (k : Int) → E sc 200 11 [some (aR (some 57)), some (aI (i : Int)), some (aI (n : Int)), some (aI x), some (aI y)] [] (tabF I 61 f) L R K Q) i ?_ ?_
    · intro k hk hc x y hx hy
      subst hx; subst hy
      have r1 := (rowS_p hl (by omega) hf k (by omega)).2.2 (by omega)
      have r2 := nxD_p hl (by omega) hf r1
      have r3 := tb_or (rowS I n f k) (by omega) (nxD I n f (rowS I n f k)) (by omega) r2.2.1.1.1
      have r4 : nxD (tabF I 61 f) n (fun j => tabF I 61 f 61 j) (rowS I n f k) = nxD I n f (rowS I n f k) := nxD_i (f := f) sameL61
      refine w_200_11 hL ?_
      simp only [Int.toNat_natCast]
      refine ⟨fun q1 => by omega, fun q1 => ⟨⟨hl, by omega, TabF.i (f := f) sameL61.symm hf, r1⟩, by omega, ?_⟩⟩
      rw [r4, r3]
      exact hc _ _ rfl (by omega)
    · intro x y hx hy
      subst hx; subst hy
      have r1 := (rowS_p hl (by omega) hf i (by omega)).2.2 (by omega)
      refine w_200_11 hL ?_
      simp only [Int.toNat_natCast]
      have r4 : nxD (tabF I 61 f) n (fun j => tabF I 61 f 61 j) (rowS I n f i) = nxD I n f (rowS I n f i) := nxD_i (f := f) sameL61
      rw [r4]
      exact ⟨fun q1 => ⟨⟨hl, by omega, TabF.i (f := f) sameL61.symm hf, r1⟩, h f hf⟩, fun q1 => by omega⟩
  exact key _ _ rfl rfl
