/-! the call moves, both sides -/
theorem w_26_0 {sc : Nat × (Nat → Int)} {I : IH} {L : LH} {R : RH} {K : KH} {Q : AQ} {u w : Int} (hL : Lay R K) (h : ((0 ≤ u ∧ u < I 2 4 → (((0 : Int) ≤ w ∧ w ≤ (2 : Int) → (R 0 10 = some (rf R 0 10)) ∧ ((K.1 (rf R 0 10) = 9) ∧ (DraftAt R K (rf R 0 10) ∧ (0 : Int) ≤ I 0 11)) ∧ (∀ (J1 : IH), ∀ (L2 : LH), (FrC (rf R 0 10) I J1) → (∀ b j, b ≠ (rf R 0 10) + 5 → L2 b j = L b j) → ((textS (bT I (I 0 11)) (min (I 0 11) 90).toNat).2.1 = true → FitC J1 L2 (rf R 0 10) (textS (bT I (I 0 11)) (min (I 0 11) 90).toNat)) → ((textS (bT I (I 0 11)) (min (I 0 11) 90).toNat).2.1 = false → (textS (bT I (I 0 11)) (min (I 0 11) 90).toNat).1 ≤ 90) → (((fltV (textS (bT I (I 0 11)) (min (I 0 11) 90).toNat)) = (-1) → ((0 ≤ u ∧ u < 80) ∧ (R 3 u.toNat = some (rf R 3 u.toNat))) ∧ (K.1 (rf R 3 u.toNat) = 4) ∧ (R 0 10 = some (rf R 0 10)) ∧ E sc 26 74 [some (aR (some 0)), some (aI u), some (aI w), some (aI (fltV (textS (bT I (I 0 11)) (min (I 0 11) 90).toNat))), some (aI (J1 (rf R 3 u.toNat) 2))] [aI (J1 0 12), aR (some (rf R 0 10)), aI u, aR (some 69), aR (some 2)] J1 L2 R K Q) ∧ ((fltV (textS (bT I (I 0 11)) (min (I 0 11) 90).toNat)) ≠ (-1) → ((-2147483648 : Int) ≤ (-10) - (fltV (textS (bT I (I 0 11)) (min (I 0 11) 90).toNat)) ∧ (-10) - (fltV (textS (bT I (I 0 11)) (min (I 0 11) 90).toNat)) < (2147483648 : Int)) ∧ Q (some (aI ((-10) - (fltV (textS (bT I (I 0 11)) (min (I 0 11) 90).toNat))))) J1 L2 R K)))) ∧ (¬((0 : Int) ≤ w ∧ w ≤ (2 : Int)) → Q (some (aI (-1))) I L R K))) ∧ (¬(0 ≤ u ∧ u < I 2 4) → Q (some (aI (-1))) I L R K))) : E sc 26 0 [some (aR (some 0)), some (aI u), some (aI w), none, none] [] I L R K Q :=
  e_aload_n mb_26 dX11_moves_0 rfl (e_getr mb_26 dX11_moves_1 mf_26.1 fs_45072 fk_11_1 (lk_0 hL) (lr_0_1 hL) (e_iload_n mb_26 dX11_moves_4 rfl (e_callV mb_26 dX11_moves_5 mf_26 mf_231 cs_45178 rfl rfl rfl rfl (lk_2 hL) rfl (v_231 hL (show E _ _ _ _ (_ :: _) _ _ _ _ _ from e_ifb_eq mb_26 dX11_moves_8 rfl ⟨fun q1 => e_iload_n mb_26 dX11_moves_11 rfl (e_iconst mb_26 dX11_moves_12 cv_iconst_0 (e_iconst mb_26 dX11_moves_13 cv_iconst_2 (e_callS mb_26 dX11_moves_14 mf_26 mf_54 cs_45151 rfl rfl rfl rfl (v_54 hL (show E _ _ _ _ (_ :: _) _ _ _ _ _ from e_ifb_ne mb_26 dX11_moves_17 rfl ⟨fun q2 => e_aload_n mb_26 dX11_moves_22 rfl (e_getr mb_26 dX11_moves_23 mf_26.1 fs_45143 fk_11_10 (lk_0 hL) ((h.1 q1).1 q2).1 (e_aload_n mb_26 dX11_moves_26 rfl (e_getv mb_26 dX11_moves_27 mf_26.1 fs_45158 (Or.inl fk_11_11) (lk_0 hL) rfl (e_callV mb_26 dX11_moves_30 mf_26 mf_280 cs_45167 rfl rfl rfl rfl ((h.1 q1).1 q2).2.1.1 rfl (v_280 hL ((h.1 q1).1 q2).2.1.2 (fun J1 L2 hp3 hp4 hp5 hp6 => (show E _ _ _ _ [aI (fltV (textS (bT I (I 0 11)) (min (I 0 11) 90).toNat))] _ _ _ _ _ from e_istore_n (l1 := [some (aR (some 0)), some (aI u), some (aI w), some (aI (fltV (textS (bT I (I 0 11)) (min (I 0 11) 90).toNat))), none]) mb_26 dX11_moves_33 rfl (e_iload_n mb_26 dX11_moves_34 rfl (e_iconst mb_26 dX11_moves_35 cv_iconst_m1 (e_icmp mb_26 dX11_moves_36 rfl (fun q3 => e_aload_n mb_26 dX11_moves_44 rfl (e_getr mb_26 dX11_moves_45 mf_26.1 fs_45072 fk_11_1 (lk_0 hL) (lr_0_1 hL) (e_iload_n mb_26 dX11_moves_48 rfl (e_callV mb_26 dX11_moves_49 mf_26 mf_233 cs_45182 rfl rfl rfl rfl (lk_2 hL) rfl (v_233 hL ((((h.1 q1).1 q2).2.2 J1 L2 hp3 hp4 hp5 hp6).1 (cb_eq.1.mp q3)).1.1 ((((h.1 q1).1 q2).2.2 J1 L2 hp3 hp4 hp5 hp6).1 (cb_eq.1.mp q3)).1.2 (show E _ _ _ _ (_ :: _) _ _ _ _ _ from e_getv mb_26 dX11_moves_52 mf_26.1 fs_45201 (Or.inl fk_4_2) ((((h.1 q1).1 q2).2.2 J1 L2 hp3 hp4 hp5 hp6).1 (cb_eq.1.mp q3)).2.1 rfl (e_istore (l1 := [some (aR (some 0)), some (aI u), some (aI w), some (aI (fltV (textS (bT I (I 0 11)) (min (I 0 11) 90).toNat))), some (aI (J1 (rf R 3 u.toNat) 2))]) mb_26 dX11_moves_55 rfl (e_aload_n mb_26 dX11_moves_57 rfl (e_getr mb_26 dX11_moves_58 mf_26.1 fs_45072 fk_11_1 (lk_0 hL) (lr_0_1 hL) (e_aload_n mb_26 dX11_moves_61 rfl (e_getr mb_26 dX11_moves_62 mf_26.1 fs_45134 fk_11_9 (lk_0 hL) (lr_0_9 hL) (e_iload_n mb_26 dX11_moves_65 rfl (e_aload_n mb_26 dX11_moves_66 rfl (e_getr mb_26 dX11_moves_67 mf_26.1 fs_45143 fk_11_10 (lk_0 hL) ((((h.1 q1).1 q2).2.2 J1 L2 hp3 hp4 hp5 hp6).1 (cb_eq.1.mp q3)).2.2.1 (e_aload_n mb_26 dX11_moves_70 rfl (e_getv mb_26 dX11_moves_71 mf_26.1 fs_45155 (Or.inl fk_11_12) (lk_0 hL) rfl (((((h.1 q1).1 q2).2.2 J1 L2 hp3 hp4 hp5 hp6).1 (cb_eq.1.mp q3)).2.2.2))))))))))))))))) (fun q3 => e_bipush mb_26 dX11_moves_39 cv_bipush_m10 (e_iload_n mb_26 dX11_moves_41 rfl (e_isub mb_26 dX11_moves_42 ((((h.1 q1).1 q2).2.2 J1 L2 hp3 hp4 hp5 hp6).2 (cb_eq.2.mp q3)).1 (e_ireturn mb_26 dX11_moves_43 ri_26 ((((h.1 q1).1 q2).2.2 J1 L2 hp3 hp4 hp5 hp6).2 (cb_eq.2.mp q3)).2)))))))))))))), fun q2 => e_iconst mb_26 dX11_moves_20 cv_iconst_m1 (e_ireturn mb_26 dX11_moves_21 ri_26 ((h.1 q1).2 q2))⟩))))), fun q1 => e_iconst mb_26 dX11_moves_20 cv_iconst_m1 (e_ireturn mb_26 dX11_moves_21 ri_26 (h.2 q1))⟩)))))
theorem w_26_77 {sc : Nat × (Nat → Int)} {I : IH} {L : LH} {R : RH} {K : KH} {Q : AQ} {x2 x4 : Int} {o1 o3 : Option AV} (no1 : nL o1) (no3 : nL o3) (hL : Lay R K) (h : ((x2 = 0 → ((SetAt R K 69)) ∧ Q (some (aI ((cnt (fun s => inSet L (rf R 69 0) s) 1536 : Nat) : Int))) I L R K) ∧ (x2 = 1 → ((SetAt R K 69)) ∧ E sc 26 129 [some (aR (some 0)), o1, some (aI x2), o3, some (aI x4)] [aI (I 0 12), aI x4, aR (some 14), aI ((cnt (fun s => inSet L (rf R 69 0) s) 1536 : Nat) : Int)] I L R K Q) ∧ (x2 ≠ 0 → x2 ≠ 1 → E sc 26 137 [some (aR (some 0)), o1, some (aI x2), o3, some (aI x4)] [aI x4, aR (some 0)] I L R K Q))) : E sc 26 77 [some (aR (some 0)), o1, some (aI x2), o3, some (aI x4)] [] I L R K Q :=
  e_iload_n mb_26 dX11_moves_77 rfl ((Decidable.byCases (fun q1a : x2 = 0 => e_lsw mb_26 dX11_moves_78 rfl (by rw [q1a]; rfl) (e_aload_n mb_26 dX11_moves_104 rfl (e_getr mb_26 dX11_moves_105 mf_26.1 fs_45134 fk_11_9 (lk_0 hL) (lr_0_9 hL) (e_callV mb_26 dX11_moves_108 mf_26 mf_263 cs_45332 rfl rfl rfl rfl (lk_69 hL) rfl (v_263 hL (h.1 q1a).1 (show E _ _ _ _ (_ :: _) _ _ _ _ _ from e_ireturn mb_26 dX11_moves_111 ri_26 (h.1 q1a).2)))))) (fun q1a => (Decidable.byCases (fun q1b : x2 = 1 => e_lsw mb_26 dX11_moves_78 rfl (by rw [q1b]; rfl) (e_aload_n mb_26 dX11_moves_112 rfl (e_getr mb_26 dX11_moves_113 mf_26.1 fs_45134 fk_11_9 (lk_0 hL) (lr_0_9 hL) (e_callV mb_26 dX11_moves_116 mf_26 mf_263 cs_45332 rfl rfl rfl rfl (lk_69 hL) rfl (v_263 hL (h.2.1 q1b).1 (show E _ _ _ _ (_ :: _) _ _ _ _ _ from e_aload_n mb_26 dX11_moves_119 rfl (e_getr mb_26 dX11_moves_120 mf_26.1 fs_45081 fk_11_2 (lk_0 hL) (lr_0_2 hL) (e_iload mb_26 dX11_moves_123 rfl (e_aload_n mb_26 dX11_moves_125 rfl (e_getv mb_26 dX11_moves_126 mf_26.1 fs_45155 (Or.inl fk_11_12) (lk_0 hL) rfl ((h.2.1 q1b).2))))))))))) (fun q1b => e_lsw mb_26 dX11_moves_78 rfl (by simp only [Op.lookupswitch.offset, if_neg (Ne.symm q1a), if_neg (Ne.symm q1b)]; rfl) (e_aload_n mb_26 dX11_moves_134 rfl (e_iload mb_26 dX11_moves_135 rfl (((h.2.2 q1a) q1b)))))))))
theorem w_26_132 {sc : Nat × (Nat → Int)} {I : IH} {L : LH} {R : RH} {K : KH} {Q : AQ} {s1 s0 : Int} {o0 o1 o2 o3 o4 : Option AV} (no0 : nL o0) (no1 : nL o1) (no2 : nL o2) (no3 : nL o3) (no4 : nL o4) (hL : Lay R K) (h : ((-2147483648 : Int) ≤ s0 * s1 ∧ s0 * s1 < (2147483648 : Int)) ∧ Q (some (aI (s0 * s1))) I L R K) : E sc 26 132 [o0, o1, o2, o3, o4] [aI s1, aI s0] I L R K Q :=
  e_imul mb_26 dX11_moves_132 h.1 (e_ireturn mb_26 dX11_moves_133 ri_26 h.2)
theorem w_26_140 {sc : Nat × (Nat → Int)} {I : IH} {L : LH} {R : RH} {K : KH} {Q : AQ} {s0 : Int} {o0 o1 o2 o3 o4 : Option AV} (no0 : nL o0) (no1 : nL o1) (no2 : nL o2) (no3 : nL o3) (no4 : nL o4) (hL : Lay R K) (h : Q (some (aI s0)) I L R K) : E sc 26 140 [o0, o1, o2, o3, o4] [aI s0] I L R K Q :=
  e_ireturn mb_26 dX11_moves_140 ri_26 h
theorem mv_ref {N : Nat} {sc : Nat × (Nat → Int)} {X : IH} {L : LH} {R : RH} {K : KH} {d n : Nat} {w v : Int} {M P U : Nat → Prop} [DecidablePred M] [DecidablePred P] [DecidablePred U] (hX : Inv N X L R K) (hd : rf R 0 10 = d) (hn : (n : Int) < X 77 7) (hw : 0 ≤ w ∧ w ≤ 2) (hok : (textS (bM X) (X 77 2).toNat).2.1 = true) (hf : FitC X L d (textS (bM X) (X 77 2).toNat)) (hM : ∀ s : Nat, s < 1536 → (M s ↔ movC X L R d n (X 77 0) (s : Int))) (hU : ∀ e : Nat, (e : Int) < X 77 18 → (U e ↔ undM X (X 84 n) (X 77 0) e)) (hP : ∀ i : Nat, (i : Int) < X 77 23 → (P i ↔ M (X 97 i).toNat ∧ undM X (X 84 n) (X 77 0) (X 96 i).toNat)) (hv : v = if w = 0 then ((cnt M 1536 : Nat) : Int) else if w = 1 then sumTo (fun e => if U e then X 94 e else 0) (X 77 18).toNat * ((cnt M 1536 : Nat) : Int) else ((cnt P (X 77 23).toNat : Nat) : Int)) : E sc 125 0 [some (aR (some 77)), some (aI (n : Int)), some (aI w), none, none, none, none, none, none, none, none] [] X L R K (Fin (N + 1) (some (aI v))) := by
  have hL := hX.1
  have hD := hX.2.1
  have hS := hX.2.2.1
  rw [hd] at hD
  have te := tape_eq hS
  have hR := iR hX
  have hR2 := hR.2.1
  have hR3 := hR.2.2.1
  have fv := fltV_b (b := bM X) (len := 0) (textS (bM X) (X 77 2).toNat)
  refine w_125_0 hL ⟨⟨by omega, hR3⟩, fun q1 => ⟨fun q2 => ⟨⟨⟨by omega, by omega⟩, te.2.2.2.1, te.2.2.2.2⟩, fun H fz ok' fy b90 => ⟨fun q3 => ?_, fun q3 => absurd (fv.1 hok) q3⟩⟩, fun q2 => absurd hw q2⟩, fun q1 => absurd (show (0 : Int) ≤ (n : Int) ∧ (n : Int) ≤ X 77 7 - 1 by omega) q1⟩
  have fz : FrZ 95 X H := fz
  have g := ok' hok
  have dx := hD.2.2.2.2.2.2.2.2.2.2.2.2.2.2.2.2.2.2.2
  have hH : Inv N H L R K := inv_sc hX (fun a j q => by
    unfold Sc at q
    exact fz a j (by omega) (by omega) (by omega)) (fun _ _ _ _ => rfl)
  have tn : TextEq H L R K d 95 := text_new hD.2 hok (fitC_z hD.2 hf fz) g.1 g.2.1 g.2.2.1 g.2.2.2
  have cH : ∀ a j, a ≠ 77 ∨ (j ≠ 55 ∧ j ≠ 56) → a ≠ 82 → a ≠ 79 → a ≠ 80 → a ≠ 81 → H a j = X a j := fun a j k1 k2 k3 k4 k5 => fz a j (by omega) (by omega) (by omega)
  have e7 : H 77 7 = X 77 7 := cH _ _ (by omega) (by omega) (by omega) (by omega) (by omega)
  have e0 : H 77 0 = X 77 0 := cH _ _ (by omega) (by omega) (by omega) (by omega) (by omega)
  have e84 : H 84 n = X 84 n := cH _ _ (by omega) (by omega) (by omega) (by omega) (by omega)
  have m57 : H 77 57 = -1 := by
    have := hH.2.2.1
    unfold InvS at this
    exact this.2.2.2.2.2.2.2.2.2.1
  have mo := modOK_of hH
  have mor : ModOK H (n : Int) := ⟨mo.1, mo.2.1, mo.2.2.1, fun _ => ⟨by have := tn.2.1; omega, tn.2.1.2.2.2.1, tn.2.1.2.2.2.2.1, tn.2.1.2.2.2.2.2⟩⟩
  have hg : Hg X H := ⟨cH 2 4 (by omega) (by omega) (by omega) (by omega) (by omega), fun a j q => cH a j (by omega) (by omega) (by omega) (by omega) (by omega)⟩
  have tok : TextOK X R K d := by
    obtain ⟨⟨t1, t2, t3, t4, t5, t6, t7⟩, -, -⟩ := tn
    have e := (textS_f hok).1
    have f1 := hf.1
    unfold TextOK SetAt
    rw [rf_eq t3, rf_eq t5]
    exact ⟨t1, t2, t3, ⟨t4, t5, t6, t7⟩, rfl, by omega, by omega⟩
  have hM2 : ∀ s : Nat, s < 1536 → (M s ↔ movM H n (H 77 0) (s : Int)) := fun s hs => by
    rw [mov_eq hH (by omega) (by omega) tn, e0, hM s hs]
    exact (movC_hg (rules_ok hR) (by rw [hR.1]; exact hn) tok hg lg_r).symm
  have hDD := iD hX
  have hCC := iC hX
  unfold InvD at hDD
  unfold InvC at hCC
  have h86 : E sc 125 86 [some (aR (some 77)), some (aI (n : Int)), some (aI w), some (aI (fltV (textS (bM X) (X 77 2).toNat))), some (aI (H 84 n)), some (aI (lowM H n)), some (aI (highM H n)), some (aI 0), some (aI 0), none, none] [] H L R K (Fin (N + 1) (some (aI v))) := by
    refine v_125m nl_i hL m57 mo mor hM2 (fun J fj j122 => ?_)
    have cJ : ∀ a j, (83 ≤ a ∧ a ≤ 98) ∨ (a = 77 ∧ (j = 0 ∨ j = 18 ∨ j = 23)) → J a j = X a j := fun a j q => by
      rw [fj a j (by omega) (by omega)]
      exact cH a j (by omega) (by omega) (by omega) (by omega) (by omega)
    have sgJ : Sg H J := fun a j q => fj a j (fun y => q (by unfold S0; omega)) (fun y => q (by unfold S0; omega))
    have n18 : X 77 18 = (((X 77 18).toNat : Nat) : Int) := by omega
    have n23 : X 77 23 = (((X 77 23).toNat : Nat) : Int) := by omega
    have sb := sumTo_le (f := fun e => if U e then X 94 e else 0) (B := 99) (m := (X 77 18).toNat) (by omega) (fun j hj => by have := hDD.2.2.2.1 j (by omega); (try dsimp only); split <;> omega) (X 77 18).toNat (Nat.le_refl _)
    have sp := sumTo_part (f := fun e => if U e then X 94 e else 0) (n := (X 77 18).toNat) (fun j hj => by have := hDD.2.2.2.1 j (by omega); (try dsimp only); split <;> omega) (X 77 18).toNat (Nat.le_refl _)
    have cb := cnt_le (p := M) 1536
    refine v_125d (U := U) (p := fun e => X 94 e) (n := (X 77 18).toNat) nl_i nl_i nl_i nl_i hL (by rw [cJ _ _ (by omega)]; exact n18) (by omega) (fun e he => ?_) (fun e he => ⟨cJ _ _ (by omega), by have := hDD.2.2.2.1 e (by omega); (try dsimp only); omega⟩) ?_
    · rw [hU e (by omega)]
      unfold undM
      rw [cJ 95 _ (by omega), cJ 93 _ (by omega), cJ 77 0 (by omega), e84]
    refine v_125c (M := M) (P := P) (n := (X 77 23).toNat) nl_i nl_i nl_i nl_i hL (by rw [cJ _ _ (by omega)]; exact n23) (by omega) (fun i hi => ?_) j122 (fun i hi => ?_) ⟨by omega, by omega⟩ ?_
    · have := hCC.2.2.2 i (by omega)
      rw [cJ 96 _ (by omega), cJ 97 _ (by omega)]
      omega
    · rw [hP i (by omega)]
      unfold undM
      rw [cJ 96 _ (by omega), cJ 97 _ (by omega), cJ 95 _ (by omega), cJ 93 _ (by omega), cJ 77 0 (by omega), e84]
    · rw [hv]
      exact fin_b (inv_up (inv_sg hH sgJ lg_r)) rfl
  rw [Int.toNat_natCast]
  unfold lowM highM at h86
  refine ⟨by omega, fun q4 => ⟨fun q5 => ?_, fun q5 => absurd q5 q4⟩, fun q4 => ⟨by omega, fun q5 => absurd q4 q5, fun q5 => ⟨by omega, ?_⟩⟩⟩
  · rw [if_neg q4, if_neg q4] at h86; exact h86
  · rw [if_pos q4, if_pos q4] at h86; exact h86
theorem c_25 {N : Nat} {sc : Nat × (Nat → Int)} {I : IH} {L : LH} {R : RH} {K : KH} {u w : Int} (hI : Inv N I L R K) : E sc 26 0 [some (aR (some 0)), some (aI u), some (aI w), none, none] [] I L R K (fun rv I1 L1 R1 K1 => E sc 125 0 [some (aR (some 77)), some (aI u), some (aI w), none, none, none, none, none, none, none, none] [] I1 L1 R1 K1 (Fin (N + 1) rv)) := by
  have hL := hI.1
  have hD := hI.2.1
  have hS := hI.2.2.1
  have hR := iR hI
  have te := tape_eq hS
  have h24 : I 2 4 = I 77 7 := hR.1
  have h70 := hR.2.1
  have h78 := hR.2.2.1
  obtain ⟨h69, r69⟩ := set69 hL
  generalize hd : rf R 0 10 = d at *
  have hx := hD.2.2.2.2.2.2.2.2.2.2.2.2.2.2.2.2.2.2.2
  have hd0 : d = 71 ∨ 131 ≤ d := hx
  refine w_26_0 hL ?_
  rw [hd, te.1, te.2.1]
  refine ⟨fun q1 => ⟨fun q2 => ⟨hD.1, ⟨hD.2.1, hD.2, te.2.2.1⟩, fun J1 L2 f gl fit b90 => ?_⟩, fun q2 => ?_⟩, fun q1 => ?_⟩
  rotate_left
  · exact w_125_0 hL ⟨⟨h70, h78⟩, fun _ => ⟨fun n => absurd n q2, fun _ => fin_b (inv_up hI) rfl⟩, fun _ => fin_b (inv_up hI) rfl⟩
  · exact w_125_0 hL ⟨⟨h70, h78⟩, fun n => absurd (show 0 ≤ u ∧ u < I 2 4 by omega) q1, fun _ => fin_b (inv_up hI) rfl⟩
  have fv := fltV_b (b := bM I) (len := 0) (textS (bM I) (I 77 2).toNat)
  have xb : bM J1 = bM I := (bM_frc hD.2 f).1
  have x2 : J1 77 2 = I 77 2 := (bM_frc hD.2 f).2
  have J1o : ∀ a j, ¬ (d ≤ a ∧ a ≤ d + 3) → J1 a j = I a j := fun a j q => f a j (by omega) (by omega) (by omega) (by omega)
  have hI1 : Inv N J1 L2 R K := inv_sc hI (fun a j q => by
    rw [hd] at q
    unfold Sc at q
    exact J1o a j (by omega)) (fun a j _ q => gl a j (by rw [hd] at q; exact q))
  have e7 : J1 77 7 = I 77 7 := J1o _ _ (by omega)
  refine ⟨fun q4 => ?_, fun q4 => ⟨?_, ?_⟩⟩
  rotate_left
  · by_cases e : (textS (bM I) (I 77 2).toNat).2.1 = true
    · exact absurd (fv.1 e) q4
    · have e : (textS (bM I) (I 77 2).toNat).2.1 = false := by simpa using e
      have := fv.2.2 e
      have := b90 e
      omega
  · refine w_125_0 hL ?_
    rw [xb, x2, e7]
    refine ⟨⟨h70, h78⟩, fun _ => ⟨fun _ => ⟨⟨⟨by omega, by omega⟩, te.2.2.2.1, te.2.2.2.2⟩, fun H fz ok' fy b90' => ⟨fun q3 => absurd q3 q4, fun _ => ?_⟩⟩, fun n => absurd q2 n⟩, fun n => absurd (show 0 ≤ u ∧ u ≤ I 77 7 - 1 by omega) n⟩
    have e : (textS (bM I) (I 77 2).toNat).2.1 = false := by
      cases e : (textS (bM I) (I 77 2).toNat).2.1 with
      | false => rfl
      | true => exact absurd (fv.1 e) q4
    have e5 := fv.2.2 e
    have e6 := b90 e
    have fy : FrY 95 J1 H := fy e
    exact ⟨by omega, fin_b (inv_up (inv_sc hI1 (fun a j q => by
      unfold Sc at q
      exact fy a j (by omega) (by omega)) (fun _ _ _ _ => rfl))) rfl⟩
  have hok := fv.2.1 q4
  have fit := fit hok
  obtain ⟨n, rfl⟩ : ∃ n : Nat, u = (n : Int) := ⟨u.toNat, by omega⟩
  have hn7 : (n : Int) < I 77 7 := by omega
  have hru := (rules_ok hR).2.2 n (by omega)
  rw [Int.toNat_natCast]
  have hR1 := iR hI1
  have tok : TextOK J1 R K d := by
    have c1 := hD.2.2.2.2.2.2.2.2.2.2.2.2.2
    have e := (textS_f hok).1
    have f1 := fit.1
    unfold TextOK SetAt
    rw [rf_eq hD.2.2.2.2.2.2.1, rf_eq c1.2.1]
    exact ⟨hx, hD.2.1, hD.2.2.2.2.2.2.1, ⟨c1.1, c1.2.1, c1.2.2.1, c1.2.2.2.1⟩, rfl, by omega, by omega⟩
  refine ⟨⟨by omega, hru.1⟩, hru.2.2.1.1, hD.1, ?_⟩
  refine e_callV mb_26 dX11_moves_74 mf_26 mf_242 cs_45328 rfl rfl rfl rfl (lk_2 hL) rfl (v_242 hL (rules_ok hR1) (by rw [hR1.1, e7]; exact hn7) tok (fun J L3 sg lg hset => ?_))
  show E sc 26 77 [some (aR (some 0)), some (aI (n : Int)), some (aI w), some (aI (fltV (textS (bM I) (I 77 2).toNat))), some (aI (J1 (rf R 3 n) 2))] [] J L3 R K _
  have hJ : Inv N J L3 R K := inv_sg hI1 sg lg
  have hRJ := iR hJ
  have e7j : J 77 7 = I 77 7 := by rw [sg 77 7 (by unfold S0; omega)]; exact e7
  have b84 : J1 (rf R 3 n) 2 = J 84 n := by
    have h4 := (hRJ.2.2.2.1 n (by omega)).2
    rw [← h4.2.2.1.1]
    exact (sg _ _ (by have := h4.1.1; unfold S0; omega)).symm
  have bj : bM J = bM I := by
    rw [← xb]
    funext p
    unfold bM
    rw [sg 77 2 (by unfold S0; omega), sg 78 p (by unfold S0; omega)]
  have x2j : J 77 2 = I 77 2 := by rw [sg 77 2 (by unfold S0; omega)]; exact x2
  have ek : J1 0 12 = J 77 0 := by
    have h := hJ.2.2.1
    unfold InvS at h
    rw [← h.1]
    exact (sg _ _ (by unfold S0; omega)).symm
  have e12 : J 0 12 = J 77 0 := by
    have h := hJ.2.2.1
    unfold InvS at h
    exact h.1
  have hM : ∀ s : Nat, s < 1536 → (inSet L3 70 s ↔ movC J L3 R d n (J 77 0) (s : Int)) := fun s hs => by
    rw [hset s hs, ek]
    exact (movC_hg (rules_ok hR1) (by rw [hR1.1, e7]; exact hn7) tok (sg_hg sg) lg).symm
  have hfJ : FitC J L3 d (textS (bM J) (J 77 2).toNat) := by
    rw [bj, x2j]
    refine ⟨by rw [sg d 8 (by unfold S0; omega)]; exact fit.1, by rw [sg d 9 (by unfold S0; omega)]; exact fit.2.1, fit.2.2.1, fit.2.2.2.1, fun s hs => ?_⟩
    have e : inSet L3 (d + 5) s ↔ inSet L2 (d + 5) s := by
      unfold inSet
      rw [lg (d + 5) _ (by omega)]
    rw [e]
    exact fit.2.2.2.2 s hs
  have hDD := iD hJ
  have hCC := iC hJ
  unfold InvD at hDD
  unfold InvC at hCC
  have fin : ∀ v : Int, (v = if w = 0 then ((cnt (fun s => inSet L3 70 s) 1536 : Nat) : Int) else if w = 1 then sumTo (fun e => if undM J (J 84 n) (J 77 0) e then J 94 e else 0) (J 77 18).toNat * ((cnt (fun s => inSet L3 70 s) 1536 : Nat) : Int) else ((cnt (fun i => inSet L3 70 (J 97 i).toNat ∧ undM J (J 84 n) (J 77 0) (J 96 i).toNat) (J 77 23).toNat : Nat) : Int)) → E sc 125 0 [some (aR (some 77)), some (aI (n : Int)), some (aI w), none, none, none, none, none, none, none, none] [] J L3 R K (Fin (N + 1) (some (aI v))) := fun v hv => mv_ref hJ hd (by omega) q2 (by rw [bj, x2j]; exact hok) hfJ hM (fun _ _ => Iff.rfl) (fun _ _ => Iff.rfl) hv
  have sb := sumTo_le (f := fun e => if undM J (J 84 n) (J 77 0) e then J 94 e else 0) (B := 99) (m := (J 77 18).toNat) (by omega) (fun j hj => by have := hDD.2.2.2.1 j (by omega); (try dsimp only); split <;> omega) (J 77 18).toNat (Nat.le_refl _)
  have sp := sumTo_part (f := fun e => if undM J (J 84 n) (J 77 0) e then J 94 e else 0) (n := (J 77 18).toNat) (fun j hj => by have := hDD.2.2.2.1 j (by omega); (try dsimp only); split <;> omega) (J 77 18).toNat (Nat.le_refl _)
  have cb := cnt_le (p := fun s => inSet L3 70 s) 1536
  have mr := mul_rng (x := sumTo (fun e => if undM J (J 84 n) (J 77 0) e then J 94 e else 0) (J 77 18).toNat) (y := ((cnt (fun s => inSet L3 70 s) 1536 : Nat) : Int)) (by omega) (by omega)
  have mc := Int.mul_comm ((cnt (fun s => inSet L3 70 s) 1536 : Nat) : Int) (sumTo (fun e => if undM J (J 84 n) (J 77 0) e then J 94 e else 0) (J 77 18).toNat)
  refine w_26_77 nl_i nl_i hL ⟨fun e => ⟨h69, ?_⟩, fun e => ⟨h69, ?_⟩, fun e1 e2 => ?_⟩
  · rw [r69]
    exact fin _ (by rw [if_pos e])
  · rw [r69]
    refine e_callV mb_26 dX11_moves_129 mf_26 mf_189 cs_45335 rfl rfl rfl rfl (lk_14 hL) rfl (v_189 (U := undM J (J 84 n) (J 77 0)) (p := fun e => J 94 e) (n := (J 77 18).toNat) hL (by omega) (by omega) (fun e he => ?_) (fun e he => ?_) ?_)
    · have h2 := hDD.2.2.2.1 e (by omega)
      have h3 := hDD.2.2.2.2 e (by omega)
      unfold undM undC
      rw [h2.1, h3.1, b84, e12]
    · have h2 := hDD.2.2.2.1 e (by omega)
      try dsimp only
      omega
    · refine w_26_132 nl_r nl_i nl_i nl_i nl_i hL ⟨by omega, ?_⟩
      exact fin _ (by rw [if_neg (by omega), if_pos e]; exact mc)
  · refine e_callV mb_26 dX11_moves_137 mf_26 mf_51 cs_45338 rfl rfl rfl rfl (lk_0 hL) rfl (v_51 (P := fun i => inSet L3 70 (J 97 i).toNat ∧ undM J (J 84 n) (J 77 0) (J 96 i).toNat) hL ⟨by omega, by omega, fun i hi => ?_⟩ (fun i hi => ?_) ?_)
    · have h2 := hCC.2.2.2 i (by omega)
      omega
    · have h2 := hCC.2.2.2 i (by omega)
      have h3 := hDD.2.2.2.1 (J 96 i).toNat (by omega)
      have h4 := hDD.2.2.2.2 (J 96 i).toNat (by omega)
      unfold undM undC
      rw [h2.1, h2.2.2.2.1, h3.1, h4.1, b84, e12]
    · rw [hCC.1]
      refine w_26_140 nl_r nl_i nl_i nl_i nl_i hL ?_
      exact fin _ (by rw [if_neg e1, if_neg e2])
