/-! the call keeps -/
theorem v_302y {N : Nat} {sc : Nat × (Nat → Int)} {I : IH} {L : LH} {R : RH} {K : KH} {Q : AQ} {w y : Int} (hL : Lay R K) (hp : Inv N I L R K ∧ y = I 77 0 ∧ (0 ≤ w ∧ w < 1024) ∧ DigOK I (dgW w)) (h : ∀ J, NearS I R J → Q (some (aI (KepI I (dgW w) 1536))) J L R K) : E sc 302 0 [some (aR (some 36)), some (aI w), some (aI y), none, none] [] I L R K Q := by
  obtain ⟨hI, rfl, hw⟩ := hp
  exact v_302 hL ⟨hI, hw⟩ h
noncomputable def wokV (I : IH) (w : Int) : Int := @ite Int ((0 ≤ w ∧ w < 1024) ∧ DigOK I (dgW w)) (Classical.propDecidable _) 1 0
theorem wokV_1 {I : IH} {w : Int} (h : (0 ≤ w ∧ w < 1024) ∧ DigOK I (dgW w)) : wokV I w = 1 := by unfold wokV; rw [if_pos h]
theorem wokV_0 {I : IH} {w : Int} (h : ¬ ((0 ≤ w ∧ w < 1024) ∧ DigOK I (dgW w))) : wokV I w = 0 := by unfold wokV; rw [if_neg h]
theorem v_301y {N : Nat} {sc : Nat × (Nat → Int)} {I : IH} {L : LH} {R : RH} {K : KH} {Q : AQ} {w : Int} (hL : Lay R K) (hp : Inv N I L R K ∧ w < 2147483648) (h : Q (some (aI (wokV I w))) I L R K) : E sc 301 0 [some (aR (some 36)), some (aI w), none] [] I L R K Q :=
  v_301 hL hp.1 hp.2 (fun g => by rw [wokV_1 g] at h; exact h) (fun g => by rw [wokV_0 g] at h; exact h)
theorem inv_near {N : Nat} {I J J2 : IH} {L : LH} {R : RH} {K : KH} (hI : Inv N I L R K) (h : Sg I J) : Inv (N + 1) J L R K := inv_up (inv_sg hI h lg_r)
theorem w_140_0 {sc : Nat × (Nat → Int)} {I : IH} {L : LH} {R : RH} {K : KH} {Q : AQ} {a0 : Int} (hL : Lay R K) (h : (((0 : Int) ≤ a0 ∧ a0 ≤ (1023 : Int) → E sc 140 18 [some (aR (some 77)), some (aI a0), some (aI a0), some (aI 0)] [] I L R K Q) ∧ (¬((0 : Int) ≤ a0 ∧ a0 ≤ (1023 : Int)) → Q (some (aI (-5))) I L R K))) : E sc 140 0 [some (aR (some 77)), some (aI a0), none, none] [] I L R K Q :=
  e_iload_n mb_140 dX12_keeps_0 rfl (e_istore_n (l1 := [some (aR (some 77)), some (aI a0), some (aI a0), none]) mb_140 dX12_keeps_1 rfl (e_iload_n mb_140 dX12_keeps_2 rfl (e_iconst mb_140 dX12_keeps_3 cv_iconst_0 (e_sipush mb_140 dX12_keeps_4 cv_sipush_1023 (e_callS mb_140 dX12_keeps_7 mf_140 mf_66 cs_49329 rfl rfl rfl rfl (v_66 hL (show E _ _ _ _ (_ :: _) _ _ _ _ _ from e_ifb_ne mb_140 dX12_keeps_10 rfl ⟨fun q1 => e_iconst mb_140 dX12_keeps_16 cv_iconst_0 (e_istore_n (l1 := [some (aR (some 77)), some (aI a0), some (aI a0), some (aI 0)]) mb_140 dX12_keeps_17 rfl ((h.1 q1))), fun q1 => e_bipush mb_140 dX12_keeps_13 cv_bipush_m5 (e_ireturn mb_140 dX12_keeps_15 ri_140 (h.2 q1))⟩)))))))
theorem w_140_18 {sc : Nat × (Nat → Int)} {I : IH} {L : LH} {R : RH} {K : KH} {Q : AQ} {x2 x3 : Int} {o1 : Option AV} (no1 : nL o1) {ib : IH} {nb : Nat} (hL : Lay R K) (h : ((5 ≤ x3 → ((Inv nb ib L R K ∧ Sg ib I)) ∧ (∀ (J1 : IH), (FindS ib J1) → (∀ j, J1 128 j = I 128 j) → ((Inv nb ib L R K ∧ FindS ib J1 ∧ TknOK ib J1)) ∧ Q (some (aI (KepI ib (tkn J1) 1536))) J1 L R K)) ∧ (x3 < 5 → ((0 : Int) ≤ x2 ∧ x2 < (2147483648 : Int)) ∧ (((0 : Int) ≤ x3 ∧ x3 < (5 : Int))) ∧ ((0 : Int) ≤ x2 ∧ x2 < (2147483648 : Int)) ∧ (((0 : Int) ≤ x3 ∧ x3 < (5 : Int))) ∧ (((I 111 x3.toNat) ≤ 0 → (((0 : Int) ≤ x3 ∧ x3 < (5 : Int))) ∧ (((x2 % 4) ≤ 0 → ((-2147483648 : Int) ≤ x3 + 1 ∧ x3 + 1 < (2147483648 : Int)) ∧ E sc 140 18 [some (aR (some 77)), o1, some (aI (x2 / 4)), some (aI (x3 + 1))] [] (setF I 128 x3.toNat (x2 % 4)) L R K Q) ∧ (0 < (x2 % 4) → Q (some (aI (-5))) (setF I 128 x3.toNat (x2 % 4)) L R K))) ∧ (0 < (I 111 x3.toNat) → (((0 : Int) ≤ x3 ∧ x3 < (5 : Int))) ∧ (((0 : Int) ≤ x3 ∧ x3 < (5 : Int))) ∧ (((x2 % 4) < (I 111 x3.toNat) → ((-2147483648 : Int) ≤ x3 + 1 ∧ x3 + 1 < (2147483648 : Int)) ∧ E sc 140 18 [some (aR (some 77)), o1, some (aI (x2 / 4)), some (aI (x3 + 1))] [] (setF I 128 x3.toNat (x2 % 4)) L R K Q) ∧ ((I 111 x3.toNat) ≤ (x2 % 4) → Q (some (aI (-5))) (setF I 128 x3.toNat (x2 % 4)) L R K))))))) : E sc 140 18 [some (aR (some 77)), o1, some (aI x2), some (aI x3)] [] I L R K Q :=
  e_iload_n mb_140 dX12_keeps_18 rfl (e_iconst mb_140 dX12_keeps_19 cv_iconst_5 (e_icmp mb_140 dX12_keeps_20 rfl (fun q1 => e_aload_n mb_140 dX12_keeps_81 rfl (e_callV mb_140 dX12_keeps_82 mf_140 mf_138 cs_49492 rfl rfl rfl rfl (lk_77 hL) rfl (v_138 hL (h.1 (cb_ge.1.mp q1)).1 (fun J1 hp2 hp3 => (show E _ _ _ _ [] _ _ _ _ _ from e_aload_n mb_140 dX12_keeps_85 rfl (e_callV mb_140 dX12_keeps_86 mf_140 mf_139 cs_49495 rfl rfl rfl rfl (lk_77 hL) rfl (v_139 hL ((h.1 (cb_ge.1.mp q1)).2 J1 hp2 hp3).1 (show E _ _ _ _ (_ :: _) _ _ _ _ _ from e_ireturn mb_140 dX12_keeps_89 ri_140 ((h.1 (cb_ge.1.mp q1)).2 J1 hp2 hp3).2)))))))) (fun q1 => e_aload_n mb_140 dX12_keeps_23 rfl (e_getr mb_140 dX12_keeps_24 mf_140.1 fs_49320 fk_12_65 (lk_77 hL) (lr_77_65 hL) (e_iload_n mb_140 dX12_keeps_27 rfl (e_iload_n mb_140 dX12_keeps_28 rfl (e_iconst mb_140 dX12_keeps_29 cv_iconst_4 (e_irem mb_140 dX12_keeps_30 ⟨(h.2 (cb_ge.2.mp q1)).1, by decide⟩ (e_iastore mb_140 dX12_keeps_31 (lk_128 hL) (ll_128 hL) (h.2 (cb_ge.2.mp q1)).2.1 (e_iload_n mb_140 dX12_keeps_32 rfl (e_iconst mb_140 dX12_keeps_33 cv_iconst_4 (e_idiv mb_140 dX12_keeps_34 ⟨(h.2 (cb_ge.2.mp q1)).2.2.1, by decide⟩ (e_istore_n (l1 := [some (aR (some 77)), o1, some (aI (x2 / 4)), some (aI x3)]) mb_140 dX12_keeps_35 (aset_nl no1 rfl rfl rfl) (e_aload_n mb_140 dX12_keeps_36 rfl (e_getr mb_140 dX12_keeps_37 mf_140.1 fs_49266 fk_12_41 (lk_77 hL) (lr_77_41 hL) (e_iload_n mb_140 dX12_keeps_40 rfl (e_ial mb_140 dX12_keeps_41 (lk_111 hL) (ll_111 hL) (h.2 (cb_ge.2.mp q1)).2.2.2.1 rfl (e_if mb_140 dX12_keeps_42 rfl (fun q2 => e_aload_n mb_140 dX12_keeps_63 rfl (e_getr mb_140 dX12_keeps_64 mf_140.1 fs_49320 fk_12_65 (lk_77 hL) (lr_77_65 hL) (e_iload_n mb_140 dX12_keeps_67 rfl (e_ial mb_140 dX12_keeps_68 (lk_128 hL) (ll_128 hL) ((h.2 (cb_ge.2.mp q1)).2.2.2.2.1 (cb_le.1.mp q2)).1 setF_s (e_if mb_140 dX12_keeps_69 rfl (fun q3 => e_iinc (l1 := [some (aR (some 77)), o1, some (aI (x2 / 4)), some (aI (x3 + 1))]) mb_140 dX12_keeps_75 rfl (((h.2 (cb_ge.2.mp q1)).2.2.2.2.1 (cb_le.1.mp q2)).2.1 (cb_le.1.mp q3)).1 rfl (e_goto mb_140 dX12_keeps_78 rfl ((((h.2 (cb_ge.2.mp q1)).2.2.2.2.1 (cb_le.1.mp q2)).2.1 (cb_le.1.mp q3)).2))) (fun q3 => e_bipush mb_140 dX12_keeps_72 cv_bipush_m5 (e_ireturn mb_140 dX12_keeps_74 ri_140 (((h.2 (cb_ge.2.mp q1)).2.2.2.2.1 (cb_le.1.mp q2)).2.2 (cb_le.2.mp q3))))))))) (fun q2 => e_aload_n mb_140 dX12_keeps_45 rfl (e_getr mb_140 dX12_keeps_46 mf_140.1 fs_49320 fk_12_65 (lk_77 hL) (lr_77_65 hL) (e_iload_n mb_140 dX12_keeps_49 rfl (e_ial mb_140 dX12_keeps_50 (lk_128 hL) (ll_128 hL) ((h.2 (cb_ge.2.mp q1)).2.2.2.2.2 (cb_le.2.mp q2)).1 setF_s (e_aload_n mb_140 dX12_keeps_51 rfl (e_getr mb_140 dX12_keeps_52 mf_140.1 fs_49266 fk_12_41 (lk_77 hL) (lr_77_41 hL) (e_iload_n mb_140 dX12_keeps_55 rfl (e_ial mb_140 dX12_keeps_56 (lk_111 hL) (ll_111 hL) ((h.2 (cb_ge.2.mp q1)).2.2.2.2.2 (cb_le.2.mp q2)).2.1 rfl (e_icmp mb_140 dX12_keeps_57 rfl (fun q4 => e_iinc (l1 := [some (aR (some 77)), o1, some (aI (x2 / 4)), some (aI (x3 + 1))]) mb_140 dX12_keeps_75 rfl (((h.2 (cb_ge.2.mp q1)).2.2.2.2.2 (cb_le.2.mp q2)).2.2.1 (cb_lt.1.mp q4)).1 rfl (e_goto mb_140 dX12_keeps_78 rfl ((((h.2 (cb_ge.2.mp q1)).2.2.2.2.2 (cb_le.2.mp q2)).2.2.1 (cb_lt.1.mp q4)).2))) (fun q4 => e_goto mb_140 dX12_keeps_60 rfl (e_bipush mb_140 dX12_keeps_72 cv_bipush_m5 (e_ireturn mb_140 dX12_keeps_74 ri_140 (((h.2 (cb_ge.2.mp q1)).2.2.2.2.2 (cb_le.2.mp q2)).2.2.2 (cb_lt.2.mp q4))))))))))))))))))))))))))))))))
theorem v_140 {N : Nat} {sc : Nat × (Nat → Int)} {I J : IH} {L : LH} {R : RH} {K : KH} {Q : AQ} {w : Int} (hL : Lay R K) (hI : Inv N I L R K) (hs : Sg I J) (h1 : (0 ≤ w ∧ w < 1024) ∧ DigOK I (dgW w) → ∀ J2, Sg I J2 → Q (some (aI (KepI I (dgW w) 1536))) J2 L R K) (h0 : ¬ ((0 ≤ w ∧ w < 1024) ∧ DigOK I (dgW w)) → ∀ J2, Sg I J2 → Q (some (aI (-5))) J2 L R K) : E sc 140 0 [some (aR (some 77)), some (aI w), none, none] [] J L R K Q := by
  have hW := iW hI
  refine w_140_0 hL ⟨fun q1 => ?_, fun q1 => h0 (fun g => q1 (by omega)) J hs⟩
  obtain ⟨v, rfl⟩ : ∃ v : Nat, w = (v : Int) := ⟨w.toNat, by omega⟩
  have edg : ∀ k, dgW (v : Int) k = v / 4 ^ k % 4 := fun k => by unfold dgW; rw [Int.toNat_natCast]
  have key : (fun k : Nat => ∀ (x y : Int) (J : IH) (o1 : Option AV), nL o1 → x = ((v / 4 ^ k : Nat) : Int) → y = (k : Int) → Sg I J → (∀ i, i < k → J 128 i = (dgW (v : Int) i : Int) ∧ (I 111 i ≤ 0 → dgW (v : Int) i = 0) ∧ (0 < I 111 i → (dgW (v : Int) i : Int) < I 111 i)) → E sc 140 18 [some (aR (some 77)), o1, some (aI x), some (aI y)] [] J L R K Q) 0 := by
    refine loop_up (C := fun k : Nat => ∀ (x y : Int) (J : IH) (o1 : Option AV), nL o1 → x = ((v / 4 ^ k : Nat) : Int) → y = (k : Int) → Sg I J → (∀ i, i < k → J 128 i = (dgW (v : Int) i : Int) ∧ (I 111 i ≤ 0 → dgW (v : Int) i = 0) ∧ (0 < I 111 i → (dgW (v : Int) i : Int) < I 111 i)) → E sc 140 18 [some (aR (some 77)), o1, some (aI x), some (aI y)] [] J L R K Q) 5 ?_ ?_
    · intro k hk hc x y J o1 n1 hx hy hs hi
      subst hy
      have e111 : J 111 k = I 111 k := hs 111 k (by unfold S0; omega)
      have bW := hW.1 k hk
      have hle : v / 4 ^ k ≤ v := Nat.div_le_self _ _
      have hx0 : 0 ≤ x ∧ x ≤ 1023 := by
        have g1 : ((v / 4 ^ k : Nat) : Int) ≤ (v : Int) := Int.ofNat_le.mpr hle
        have g2 : (0 : Int) ≤ ((v / 4 ^ k : Nat) : Int) := Int.natCast_nonneg _
        rw [hx]
        exact ⟨g2, Int.le_trans g1 (by omega)⟩
      have ed : x % 4 = (dgW (v : Int) k : Int) := by rw [edg, hx]; omega
      have ed4 : x / 4 = ((v / 4 ^ (k + 1) : Nat) : Int) := by
        rw [hx, Nat.pow_succ, ← Nat.div_div_eq_div_mul]; omega
      have hsg : Sg I (setF J 128 k (dgW (v : Int) k : Int)) := sg_s hs (by unfold S0; omega)
      have go : (I 111 k ≤ 0 → dgW (v : Int) k = 0) ∧ (0 < I 111 k → (dgW (v : Int) k : Int) < I 111 k) → E sc 140 18 [some (aR (some 77)), o1, some (aI ((v / 4 ^ (k + 1) : Nat) : Int)), some (aI ((k : Int) + 1))] [] (setF J 128 k (dgW (v : Int) k : Int)) L R K Q := fun hd => hc _ _ _ _ n1 rfl (by omega) hsg (fun i hik => by
        rw [setF_i]
        by_cases q : i = k
        · rw [if_pos q, q]; exact ⟨rfl, hd⟩
        · rw [if_neg q]; exact hi i (by omega))
      have bad : ¬ ((I 111 k ≤ 0 → dgW (v : Int) k = 0) ∧ (0 < I 111 k → (dgW (v : Int) k : Int) < I 111 k)) → Q (some (aI (-5))) (setF J 128 k (dgW (v : Int) k : Int)) L R K := fun hd => h0 (fun g => hd (g.2 k hk)) _ hsg
      refine w_140_18 (ib := I) (nb := N) n1 hL ?_
      simp only [Int.toNat_natCast]
      rw [ed, ed4, e111]
      exact ⟨fun q2 => by omega, fun q2 => ⟨by omega, by omega, by omega, by omega, fun q3 => ⟨by omega, fun q4 => ⟨by omega, go (by omega)⟩, fun q4 => bad (fun g => by have := g.1 q3; omega)⟩, fun q3 => ⟨by omega, by omega, fun q4 => ⟨by omega, go (by omega)⟩, fun q4 => bad (fun g => by have := g.2 q3; omega)⟩⟩⟩
    · intro x y J o1 n1 hx hy hs hi
      subst hy
      have hd : DigOK I (dgW (v : Int)) := fun k hk => (hi k hk).2
      refine w_140_18 (ib := I) (nb := N) n1 hL ⟨fun q2 => ⟨⟨hI, hs⟩, fun J1 hF h128 => ?_⟩, fun q2 => by omega⟩
      have etk : ∀ k, k < 5 → tkn J1 k = dgW (v : Int) k := fun k hk => by
        unfold tkn
        rw [h128 k, (hi k hk).1]
        omega
      have hd1 : DigOK I (tkn J1) := fun k hk => by rw [etk k hk]; exact hd k hk
      have etp : ∀ s k, k ≤ 5 → tpI I (tkn J1) s k = tpI I (dgW (v : Int)) s k := by
        intro s k
        induction k with
        | zero => intro _; rfl
        | succ k ih =>
          intro hk
          rw [tpI, tpI, ih (by omega), etk k (by omega)]
      have eK : KepI I (tkn J1) 1536 = KepI I (dgW (v : Int)) 1536 := sumTo_congr 1536 (fun s _ => by
        show kepI I (tkn J1) (s : Int) = kepI I (dgW (v : Int)) (s : Int)
        unfold kepI
        rw [etp _ 5 (by omega)])
      refine ⟨⟨hI, hF, hd1, fun k hk => by rw [h128 k, (hi k hk).1]; omega⟩, ?_⟩
      rw [eK]
      exact h1 ⟨⟨by omega, by omega⟩, hd⟩ _ hF.1
  exact key _ _ _ _ nl_i (by rw [Nat.pow_zero, Nat.div_one]) rfl hs (fun i hi => by omega)
theorem w_34_0 {sc : Nat × (Nat → Int)} {I : IH} {L : LH} {R : RH} {K : KH} {Q : AQ} {w : Int} {nb : Nat} (hL : Lay R K) (h : ((Inv nb I L R K ∧ w < 2147483648)) ∧ (((wokV I w) = 0 → Q (some (aI (-5))) I L R K) ∧ ((wokV I w) ≠ 0 → ((Inv nb I L R K ∧ (I 0 12) = I 77 0 ∧ (0 ≤ w ∧ w < 1024) ∧ DigOK I (dgW w))) ∧ (∀ (J1 : IH), (NearS I R J1) → Q (some (aI (KepI I (dgW w) 1536))) J1 L R K)))) : E sc 34 0 [some (aR (some 0)), some (aI w)] [] I L R K Q :=
  e_aload_n mb_34 dX11_keeps_0 rfl (e_getr mb_34 dX11_keeps_1 mf_34.1 fs_45106 fk_11_5 (lk_0 hL) (lr_0_5 hL) (e_iload_n mb_34 dX11_keeps_4 rfl (e_callV mb_34 dX11_keeps_5 mf_34 mf_301 cs_45393 rfl rfl rfl rfl (lk_36 hL) rfl (v_301y hL h.1 (show E _ _ _ _ (_ :: _) _ _ _ _ _ from e_if mb_34 dX11_keeps_8 rfl (fun q1 => e_bipush mb_34 dX11_keeps_26 cv_bipush_m5 (e_ireturn mb_34 dX11_keeps_28 ri_34 (h.2.1 (cb_eq.1.mp q1)))) (fun q1 => e_aload_n mb_34 dX11_keeps_11 rfl (e_getr mb_34 dX11_keeps_12 mf_34.1 fs_45106 fk_11_5 (lk_0 hL) (lr_0_5 hL) (e_iload_n mb_34 dX11_keeps_15 rfl (e_aload_n mb_34 dX11_keeps_16 rfl (e_getv mb_34 dX11_keeps_17 mf_34.1 fs_45155 (Or.inl fk_11_12) (lk_0 hL) rfl (e_callV mb_34 dX11_keeps_20 mf_34 mf_302 cs_45396 rfl rfl rfl rfl (lk_36 hL) rfl (v_302y hL (h.2.2 (cb_eq.2.mp q1)).1 (fun J1 hp2 => (show E _ _ _ _ [aI (KepI I (dgW w) 1536)] _ _ _ _ _ from e_goto mb_34 dX11_keeps_23 rfl (e_ireturn mb_34 dX11_keeps_28 ri_34 ((h.2.2 (cb_eq.2.mp q1)).2 J1 hp2))))))))))))))))
theorem c_33 {N : Nat} {sc : Nat × (Nat → Int)} {I : IH} {L : LH} {R : RH} {K : KH} {w : Int} (hI : Inv N I L R K) (g_w : -2147483648 ≤ w ∧ w < 2147483648) : E sc 34 0 [some (aR (some 0)), some (aI w)] [] I L R K (fun rv I1 L1 R1 K1 => E sc 140 0 [some (aR (some 77)), some (aI w), none, none] [] I1 L1 R1 K1 (Fin (N + 1) rv)) := by
  have hL := hI.1
  have hS := iS hI
  unfold InvS at hS
  by_cases q : (0 ≤ w ∧ w < 1024) ∧ DigOK I (dgW w)
  · have ew := wokV_1 q
    refine w_34_0 (nb := N) hL ⟨⟨hI, g_w.2⟩, fun q1 => by omega, fun q1 => ⟨⟨hI, hS.1, q⟩, fun J hN => v_140 hL hI hN.1 (fun _ J2 hs => fin_b (inv_near (J2 := I) hI hs) rfl) (fun g => absurd q g)⟩⟩
  · have ew := wokV_0 q
    refine w_34_0 (nb := N) hL ⟨⟨hI, g_w.2⟩, fun q1 => v_140 hL hI sg_r (fun g => absurd g q) (fun _ J2 hs => fin_b (inv_near (J2 := I) hI hs) rfl), fun q1 => by omega⟩
