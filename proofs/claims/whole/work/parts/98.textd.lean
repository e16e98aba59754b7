/-! the call way, both sides -/
theorem layRs_37 : ∀ e ∈ layRs, ¬ (e.1 = 37) ∧ ¬ (e.1 = 0 ∧ e.2.1 = 10) ∧ ¬ (e.1 = 3) := by decide +kernel
theorem lay_37 {R : RH} {K : KH} {j : Nat} {x : Option Nat} (h : Lay R K) : Lay (setF R 37 j x) K := by
  obtain ⟨h1, h2, h3⟩ := h
  refine ⟨h1, fun e he => ?_, h3⟩
  unfold setF
  rw [if_neg (fun g => (layRs_37 e he).1 g.1)]
  exact h2 e he
theorem lay_010 {R : RH} {K : KH} {x : Option Nat} (h : Lay R K) : Lay (setF R 0 10 x) K := by
  obtain ⟨h1, h2, h3⟩ := h
  refine ⟨h1, fun e he => ?_, h3⟩
  unfold setF
  rw [if_neg (layRs_37 e he).2.1]
  exact h2 e he
theorem lay_Rt {R : RH} {K : KH} {t n : Nat} (h : Lay R K) (ht : 131 ≤ t) (hn : 131 ≤ n) : Lay (Rt R t n) K := by
  unfold Rt
  exact lay_rn (lay_rn (lay_rn (lay_rn (lay_rn (lay_rn h ht) ht) ht) (by omega)) ht) ht
theorem lay_Kt {R : RH} {K : KH} (h : Lay R K) : Lay R (Kt K) := lay_al (lay_al (lay_al (lay_al (lay_al h))))
theorem Rt_o {R : RH} {t n x j : Nat} (h : x ≠ t) (h2 : x ≠ n + 3) : Rt R t n x j = R x j := by
  unfold Rt setF
  simp [h, h2]
theorem Kt_o {K : KH} {m x : Nat} (h : x < K.2.2.1) : (Kt (amAlloc K 9 m)).1 x = K.1 x ∧ (Kt (amAlloc K 9 m)).2.1 x = K.2.1 x := by
  obtain ⟨K1, K2, n, z⟩ := K
  have h : x < n := h
  unfold Kt amAlloc up1
  dsimp only
  constructor
  · rw [if_neg (by omega), if_neg (by omega), if_neg (by omega), if_neg (by omega), if_neg (by omega), if_neg (by omega)]
  · rw [if_neg (by omega), if_neg (by omega), if_neg (by omega), if_neg (by omega), if_neg (by omega), if_neg (by omega)]
theorem draft_r {R R1 : RH} {K K1 : KH} {d : Nat} (h : DraftAt R K d) (h1 : ∀ j, R1 d j = R d j) (h2 : R1 (d + 4) 0 = R (d + 4) 0) (hk : ∀ x, d ≤ x → x < d + 6 → K1.1 x = K.1 x ∧ K1.2.1 x = K.2.1 x) (hn : d + 6 ≤ K1.2.2.1) : DraftAt R1 K1 d := by
  unfold DraftAt at h ⊢
  rw [h1, h1, h1, h1, h1, h2, (hk d (by omega) (by omega)).1, (hk (d + 1) (by omega) (by omega)).1, (hk (d + 1) (by omega) (by omega)).2, (hk (d + 2) (by omega) (by omega)).1, (hk (d + 2) (by omega) (by omega)).2, (hk (d + 3) (by omega) (by omega)).1, (hk (d + 3) (by omega) (by omega)).2, (hk (d + 4) (by omega) (by omega)).1, (hk (d + 5) (by omega) (by omega)).1, (hk (d + 5) (by omega) (by omega)).2]
  obtain ⟨a1, a2, a3, a4, a5, a6, a7, a8, a9, a10, a11, a12, a13, a14, a15, a16, a17, a18, a19⟩ := h
  exact ⟨a1, a2, a3, a4, a5, a6, a7, a8, a9, a10, a11, a12, a13, a14, a15, a16, a17, hn, a19⟩
theorem bM_set {X : IH} {a j : Nat} {v : Int} (h : a ≠ 77) (h2 : a ≠ 78) : bM (setF X a j v) = bM X := by
  funext p
  unfold bM
  rw [setF_n (by omega), setF_n (by omega)]
theorem way_bad {N s c d : Nat} {I J1 J : IH} {L L2 : LH} {R : RH} {K : KH} (hI : Inv N I L R K) (hd : rf R 0 10 = d) (hs5 : s < 5) (hcc : I 111 s = (c : Int)) (hc3 : c < 3) (J1o : ∀ a j, ¬ (d ≤ a ∧ a ≤ d + 3) → J1 a j = I a j) (fy : FrY (80 + 3 * s + c) (setF J1 0 11 0) J) (hl : OldL d L L2) : Inv (N + 1) (setF J 77 2 0) L2 R K := by
  have hL := hI.1
  have hD := hI.2.1
  have hW := hI.2.2.2.2.2.2.2.2.2.2.2.2.1
  have w0 := hW.1 s hs5
  have hx := hD.2.2.2.2.2.2.2.2.2.2.2.2.2.2.2.2.2.2.2
  have cell : ∀ a j, ¬ (d ≤ a ∧ a ≤ d + 3) → ¬ (a = 77 ∧ (j = 2 ∨ j = 55 ∨ j = 56)) → ¬ (a = 82 ∧ 5 * (80 + 3 * s + c) ≤ j ∧ j < 5 * (80 + 3 * s + c) + 5) → ¬ (a = 0 ∧ j = 11) → setF J 77 2 0 a j = I a j := fun a j k1 k2 k3 k4 => by
    rw [setF_n (by omega), fy a j (by omega) k3, setF_n (by omega)]
    exact J1o a j k1
  have f011 : setF J 77 2 0 0 11 = 0 := by rw [setF_n (by omega), fy 0 11 (by omega) (by omega)]; exact setF_s
  have f772 : setF J 77 2 0 77 2 = 0 := setF_s
  rw [hd] at hx
  generalize setF J 77 2 0 = F at *
  have hi : OldI (rf R 0 10) (80 + 3 * s + c) I F := fun a j q => by
    rw [hd] at q
    unfold Nw Sc at q
    exact cell a j (by omega) (by omega) (by omega) (by omega)
  have hl2 : OldL (rf R 0 10) L L2 := by rw [hd]; exact hl
  have c4 : ∀ a j, (a = 38 ∨ a = 39 ∨ a = 111 ∨ a = 112) → F a j = I a j := fun a j q => cell a j (by omega) (by omega) (by omega) (by omega)
  refine inv_way hI hL hD hi (by omega) ⟨f011, f772⟩ ⟨fun _ _ _ _ => rfl, fun _ => rfl⟩ (fun _ _ => ⟨rfl, rfl⟩) hl2 (Nat.le_refl _) ?_ (by omega) (by omega)
  exact invW_w (by rw [hd]; exact hx) hW hs5 hcc hc3 hi ⟨fun _ _ _ _ => rfl, fun _ => rfl⟩ (fun _ _ => ⟨rfl, rfl⟩) hl2 (Nat.le_refl _) (fun _ _ => rfl) (fun j _ => ⟨c4 38 j (by omega), c4 112 j (by omega)⟩) (fun l _ => ⟨c4 39 l (by omega), c4 111 l (by omega)⟩) ⟨by rw [c4 39 _ (by omega), c4 111 _ (by omega)]; exact w0.1, .inl (c4 111 _ (by omega))⟩
theorem way_inv {N s c d : Nat} {r : Int} {I J1 J : IH} {L L2 : LH} {R R2 : RH} {K K2 : KH} (hI : Inv N I L R K) (hd : rf R 0 10 = d) (hs5 : s < 5) (hcc : I 111 s = (c : Int)) (hc3 : c < 3) (hrr : 0 ≤ r ∧ r ≤ 9) (J1o : ∀ a j, ¬ (d ≤ a ∧ a ≤ d + 3) → J1 a j = I a j) (fz : FrZ (80 + 3 * s + c) (setF (setF (setF J1 0 11 0) 38 (3 * s + c) r) 39 s ((c : Int) + 1)) J) (tn : TextEq J L2 R2 K2 d (80 + 3 * s + c)) (hL2 : Lay R2 K2) (R2d : R2 0 10 = some K.2.2.1) (hD2 : DraftAt R2 K2 K.2.2.1) (hr : OldR (rf R 0 10) R R2) (hk : OldK d K K2) (hl2 : OldL (rf R 0 10) L L2) (R2w : ∀ j, R2 37 j = if j = 3 * s + c then some d else R 37 j) (k2n : K2.2.2.1 ≤ K.2.2.1 + 8) (kz : K2.2.2.2 ≤ K.2.2.2 + 100) : Inv (N + 1) (setF (setF (setF J 77 2 0) 112 (3 * s + c) r) 111 s ((c : Int) + 1)) L2 R2 K2 := by
  have hD := hI.2.1
  have hW := hI.2.2.2.2.2.2.2.2.2.2.2.2.1
  have hd6 := hD.2.2.2.2.2.2.2.2.2.2.2.2.2.2.2.2.2.2.1
  have hx := hD.2.2.2.2.2.2.2.2.2.2.2.2.2.2.2.2.2.2.2
  have rd2 : rf R2 0 10 = K.2.2.1 := rf_eq R2d
  have w37 : R2 37 (3 * s + c) = some d := by rw [R2w, if_pos rfl]
  have r37 : rf R2 37 (3 * s + c) = d := rf_eq w37
  have cell : ∀ a j, ¬ (d ≤ a ∧ a ≤ d + 3) → ¬ (a = 77 ∧ (j = 2 ∨ j = 55 ∨ j = 56)) → ¬ (a = 82 ∧ 5 * (80 + 3 * s + c) ≤ j ∧ j < 5 * (80 + 3 * s + c) + 5) → ¬ (79 ≤ a ∧ a ≤ 81 ∧ j = 80 + 3 * s + c) → ¬ (a = 0 ∧ j = 11) → ¬ (a = 38 ∧ j = 3 * s + c) → ¬ (a = 39 ∧ j = s) → ¬ (a = 112 ∧ j = 3 * s + c) → ¬ (a = 111 ∧ j = s) → setF (setF (setF J 77 2 0) 112 (3 * s + c) r) 111 s ((c : Int) + 1) a j = I a j := fun a j k1 k2 k3 k4 k5 k6 k7 k8 k9 => by
    rw [setF_n k9, setF_n k8, setF_n (by omega), fz a j (by omega) k3 (by omega), setF_n k7, setF_n k6, setF_n k5]
    exact J1o a j k1
  have f38 : setF (setF (setF J 77 2 0) 112 (3 * s + c) r) 111 s ((c : Int) + 1) 38 (3 * s + c) = r := by
    rw [setF_n (by omega), setF_n (by omega), setF_n (by omega), fz _ _ (by omega) (by omega) (by omega), setF_n (by omega)]; exact setF_s
  have f39 : setF (setF (setF J 77 2 0) 112 (3 * s + c) r) 111 s ((c : Int) + 1) 39 s = (c : Int) + 1 := by
    rw [setF_n (by omega), setF_n (by omega), setF_n (by omega), fz _ _ (by omega) (by omega) (by omega)]; exact setF_s
  have f111 : setF (setF (setF J 77 2 0) 112 (3 * s + c) r) 111 s ((c : Int) + 1) 111 s = (c : Int) + 1 := setF_s
  have f112 : setF (setF (setF J 77 2 0) 112 (3 * s + c) r) 111 s ((c : Int) + 1) 112 (3 * s + c) = r := by rw [setF_n (by omega)]; exact setF_s
  have f011 : setF (setF (setF J 77 2 0) 112 (3 * s + c) r) 111 s ((c : Int) + 1) 0 11 = 0 := by
    rw [setF_n (by omega), setF_n (by omega), setF_n (by omega), fz _ _ (by omega) (by omega) (by omega), setF_n (by omega), setF_n (by omega)]; exact setF_s
  have f772 : setF (setF (setF J 77 2 0) 112 (3 * s + c) r) 111 s ((c : Int) + 1) 77 2 = 0 := by
    rw [setF_n (by omega), setF_n (by omega)]; exact setF_s
  have fJ : ∀ a j, a ≠ 111 → a ≠ 112 → a ≠ 77 → setF (setF (setF J 77 2 0) 112 (3 * s + c) r) 111 s ((c : Int) + 1) a j = J a j := fun a j k1 k2 k3 => by rw [setF_n (by omega), setF_n (by omega), setF_n (by omega)]
  rw [hd] at hx hd6
  generalize setF (setF (setF J 77 2 0) 112 (3 * s + c) r) 111 s ((c : Int) + 1) = F at *
  have hi : OldI (rf R 0 10) (80 + 3 * s + c) I F := fun a j q => by
    rw [hd] at q
    unfold Nw Sc at q
    exact cell a j (by omega) (by omega) (by omega) (by omega) (by omega) (by omega) (by omega) (by omega) (by omega)
  have tF : TextEq F L2 R2 K2 d (80 + 3 * s + c) := tn.fr tn.1 (fJ _ _ (by omega) (by omega) (by omega)) (fJ _ _ (by omega) (by omega) (by omega)) (fJ _ _ (by omega) (by omega) (by omega)) (fJ _ _ (by omega) (by omega) (by omega)) (fJ _ _ (by omega) (by omega) (by omega)) (fun k _ => fJ _ _ (by omega) (by omega) (by omega)) (fun _ => rfl)
  have c38 : ∀ j, j ≠ 3 * s + c → F 38 j = I 38 j ∧ F 112 j = I 112 j := fun j hj => ⟨cell 38 j (by omega) (by omega) (by omega) (by omega) (by omega) (by omega) (by omega) (by omega) (by omega), cell 112 j (by omega) (by omega) (by omega) (by omega) (by omega) (by omega) (by omega) (by omega) (by omega)⟩
  have c39 : ∀ l, l ≠ s → F 39 l = I 39 l ∧ F 111 l = I 111 l := fun l hl3 => ⟨cell 39 l (by omega) (by omega) (by omega) (by omega) (by omega) (by omega) (by omega) (by omega) (by omega), cell 111 l (by omega) (by omega) (by omega) (by omega) (by omega) (by omega) (by omega) (by omega) (by omega)⟩
  refine inv_way hI hL2 (by rw [rd2]; exact ⟨R2d, hD2⟩) hi (by omega) ⟨f011, f772⟩ hr (by rw [hd]; exact hk) hl2 (by rw [hd, rd2]; omega) ?_ k2n kz
  exact invW_w (by rw [hd]; exact hx) hW hs5 hcc hc3 hi hr (by rw [hd]; exact hk) hl2 (by rw [hd, rd2]; omega) (fun j hj => by rw [R2w, if_neg hj]) c38 c39 ⟨by rw [f39, f111], .inr ⟨by rw [f111, hcc], by rw [r37]; exact w37, by rw [r37]; exact tF, ⟨by rw [f38, f112], by rw [f112]; omega, by rw [f112]; omega⟩, by rw [r37, rd2]; omega⟩⟩
theorem c_32 {N : Nat} {sc : Nat × (Nat → Int)} {I : IH} {L : LH} {R : RH} {K : KH} {s r : Int} (hI : Inv N I L R K) : E sc 33 0 [some (aR (some 0)), some (aI s), some (aI r), none, none] [] I L R K (fun rv I1 L1 R1 K1 => E sc 137 0 [some (aR (some 77)), some (aI s), some (aI r), none, none] [] I1 L1 R1 K1 (Fin (N + 1) rv)) := by
  have hL := hI.1
  have hD := hI.2.1
  have hS := hI.2.2.1
  have hW := hI.2.2.2.2.2.2.2.2.2.2.2.2.1
  have te := tape_eq hS
  have h131 : 131 ≤ K.2.2.1 := hL.2.2
  generalize hd : rf R 0 10 = d at *
  have hx := hD.2.2.2.2.2.2.2.2.2.2.2.2.2.2.2.2.2.2.2
  have hd0 : d = 71 ∨ 131 ≤ d := hx
  have hd6 : d + 6 ≤ K.2.2.1 := hD.2.2.2.2.2.2.2.2.2.2.2.2.2.2.2.2.2.2.1
  refine w_33_0 hL ?_
  rw [hd, te.1, te.2.1]
  refine ⟨fun q1 => ⟨fun q2 => ?_, fun q2 => ?_⟩, fun q1 => ?_⟩
  · have w0 := hW.1 s.toNat (by omega)
    refine ⟨q1, fun q3 => ?_, fun q3 => ⟨hD.1, ⟨hD.2.1, hD.2, te.2.2.1⟩, fun J1 L2 f g fit b90 => ?_⟩⟩
    · exact w_137_0 hL ⟨fun _ => ⟨fun _ => ⟨q1, fun n => absurd (show I 111 s.toNat = 3 by omega) n, fun _ => fin_b (inv_up hI) rfl⟩, fun n => absurd q2 n⟩, fun n => absurd (show (0 : Int) ≤ s ∧ s ≤ 4 by omega) n⟩
    · have hc : I 111 s.toNat < 3 := by omega
      have fv := fltV_b (b := bM I) (len := 0) (textS (bM I) (I 77 2).toNat)
      have xb : bM (setF J1 0 11 0) = bM I := by
        rw [← (bM_frc hD.2 f).1]
        exact bM_set (by omega) (by omega)
      have x2 : setF J1 0 11 0 77 2 = I 77 2 := by rw [setF_n (by omega)]; exact (bM_frc hD.2 f).2
      have hl : OldL d L L2 := fun x h1 h2 j => g (x + 5) j (by omega)
      have J1o : ∀ a j, ¬ (d ≤ a ∧ a ≤ d + 3) → J1 a j = I a j := fun a j q => f a j (by omega) (by omega) (by omega) (by omega)
      generalize hcn : (I 111 s.toNat).toNat = c at *
      have hcc : I 111 s.toNat = (c : Int) := by omega
      have hs5 : s.toNat < 5 := by omega
      refine ⟨fun q4 => ⟨hD.1, ?_⟩, fun q4 => ⟨?_, ?_⟩⟩
      · have hok := fv.2.1 q4
        have fit := fit hok
        have c39 : setF J1 0 11 0 39 s.toNat = (c : Int) := by rw [setF_n (by omega), J1o _ _ (by omega)]; omega
        have R36 : ∀ j, setF R 37 (3 * s.toNat + c) (some d) 36 j = R 36 j := fun j => by unfold setF; rw [if_neg (by omega)]
        have z3 : setF R 37 (3 * s.toNat + c) (some d) 36 3 = some 38 := by rw [R36]; exact lr_36_3 hL
        have z4 : setF R 37 (3 * s.toNat + c) (some d) 36 4 = some 39 := by rw [R36]; exact lr_36_4 hL
        have en : (s * 3 + (c : Int)).toNat = 3 * s.toNat + c := by omega
        have c392 : setF (setF J1 0 11 0) 38 (3 * s.toNat + c) r 39 s.toNat = (c : Int) := by rw [setF_n (by omega)]; exact c39
        have k38 : K.1 38 = 100 ∧ ((0 : Int) ≤ s * 3 + (c : Int) ∧ s * 3 + (c : Int) < ((K.2.1 38 : Nat) : Int)) := ⟨lk_38 hL, by omega, by rw [ll_38 hL]; omega⟩
        have k39 : K.1 39 = 100 ∧ ((0 : Int) ≤ s ∧ s < ((K.2.1 39 : Nat) : Int)) := ⟨lk_39 hL, by omega, by rw [ll_39 hL]; omega⟩
        refine e_callV mb_33 dX11_way_77 mf_33 mf_299 cs_45390 rfl rfl rfl rfl (lk_36 hL) rfl (w_299_0 hL ?_)
        rw [c39, en, rf_eq z3, rf_eq z4, c392]
        refine ⟨q1, by omega, by omega, ⟨⟨by omega, by omega⟩, hD.2.1⟩, z3, by omega, by omega, k38, z4, k39, by omega, k39, ?_⟩
        have hL7 : Lay (setF R 37 (3 * s.toNat + c) (some d)) K := lay_37 hL
        have hA : Lay (setF R 37 (3 * s.toNat + c) (some d)) (amAlloc K 9 (nFld 9)) := lay_al hL7
        show E sc 33 80 [some (aR (some 0)), some (aI s), some (aI r), some (aI (fltV (textS (bM I) (I 77 2).toNat))), none] [aI (c : Int)] _ L2 _ K _
        refine w_33_80 nl_i nl_i nl_i nl_n hL7 ?_
        refine e_new mb_33 dX11_way_83 (by rw [mf_33.1]; rfl) (w_33_86 nl_i nl_i nl_i hA ?_)
        refine e_callP mb_33 dX11_way_91 mf_33 mf_279 cs_45140 rfl rfl rfl rfl al_s.1 rfl (v_279 hA al_s.1 (Nat.lt_succ_self _) h131 ?_)
        show E sc 33 94 [some (aR (some 0)), some (aI s), some (aI r), some (aI (fltV (textS (bM I) (I 77 2).toNat))), some (aI (c : Int))] [aR (some K.2.2.1), aR (some 0)] _ L2 _ _ _
        have hT : Lay (Rt (setF R 37 (3 * s.toNat + c) (some d)) K.2.2.1 (K.2.2.1 + 1)) (Kt (amAlloc K 9 (nFld 9))) := lay_Rt (lay_Kt hA) h131 (by omega)
        refine w_33_94 nl_r nl_i nl_i nl_i hT ?_
        change E sc 137 0 [some (aR (some 77)), some (aI s), some (aI r), none, none] [] (setF (setF (setF J1 0 11 0) 38 (3 * s.toNat + c) r) 39 s.toNat ((c : Int) + 1)) L2 (setF (Rt (setF R 37 (3 * s.toNat + c) (some d)) K.2.2.1 (K.2.2.1 + 1)) 0 10 (some K.2.2.1)) (Kt (amAlloc K 9 (nFld 9))) (Fin (N + 1) (some (aI (c : Int))))
        have R2o : ∀ x j, x ≠ 0 → x ≠ 37 → x < K.2.2.1 → setF (Rt (setF R 37 (3 * s.toNat + c) (some d)) K.2.2.1 (K.2.2.1 + 1)) 0 10 (some K.2.2.1) x j = R x j := fun x j n0 n37 nt => by
          show (if x = 0 ∧ j = 10 then some K.2.2.1 else Rt (setF R 37 (3 * s.toNat + c) (some d)) K.2.2.1 (K.2.2.1 + 1) x j) = R x j
          rw [if_neg (by omega), Rt_o (by omega) (by omega)]
          show (if x = 37 ∧ j = 3 * s.toNat + c then some d else R x j) = R x j
          rw [if_neg (by omega)]
        have R2d : setF (Rt (setF R 37 (3 * s.toNat + c) (some d)) K.2.2.1 (K.2.2.1 + 1)) 0 10 (some K.2.2.1) 0 10 = some K.2.2.1 := if_pos ⟨rfl, rfl⟩
        have R2w : ∀ j, setF (Rt (setF R 37 (3 * s.toNat + c) (some d)) K.2.2.1 (K.2.2.1 + 1)) 0 10 (some K.2.2.1) 37 j = if j = 3 * s.toNat + c then some d else R 37 j := fun j => by
          show (if 37 = 0 ∧ j = 10 then some K.2.2.1 else Rt (setF R 37 (3 * s.toNat + c) (some d)) K.2.2.1 (K.2.2.1 + 1) 37 j) = _
          rw [if_neg (by omega), Rt_o (by omega) (by omega)]
          show (if 37 = 37 ∧ j = 3 * s.toNat + c then some d else R 37 j) = _
          by_cases q : j = 3 * s.toNat + c
          · rw [if_pos q, if_pos ⟨rfl, q⟩]
          · rw [if_neg q, if_neg (fun g => q g.2)]
        have R2t : ∀ x j, x ≠ 0 → setF (Rt (setF R 37 (3 * s.toNat + c) (some d)) K.2.2.1 (K.2.2.1 + 1)) 0 10 (some K.2.2.1) x j = Rt (setF R 37 (3 * s.toNat + c) (some d)) K.2.2.1 (K.2.2.1 + 1) x j := fun x j n0 => if_neg (by omega)
        have hL2 := lay_010 (x := some K.2.2.1) hT
        have kn : (Kt (amAlloc K 9 (nFld 9))).2.2.1 = K.2.2.1 + 6 := rfl
        have kz : (Kt (amAlloc K 9 (nFld 9))).2.2.2 ≤ K.2.2.2 + 100 := by
          show K.2.2.2 + nFld 9 + 5 + 5 + 5 + nFld 7 + 24 ≤ K.2.2.2 + 100
          have n9 : nFld 9 = 10 := by decide +kernel
          have n7 : nFld 7 = 1 := by decide +kernel
          omega
        have hk : OldK d K (Kt (amAlloc K 9 (nFld 9))) := fun x hx2 => Kt_o (by omega)
        have hD2 : DraftAt (setF (Rt (setF R 37 (3 * s.toNat + c) (some d)) K.2.2.1 (K.2.2.1 + 1)) 0 10 (some K.2.2.1)) (Kt (amAlloc K 9 (nFld 9))) K.2.2.1 := draft_r (draft_new h131) (fun j => R2t _ _ (by omega)) (R2t _ _ (by omega)) (fun _ _ _ => ⟨rfl, rfl⟩) (Nat.le_refl _)
        have hDo : DraftAt (setF (Rt (setF R 37 (3 * s.toNat + c) (some d)) K.2.2.1 (K.2.2.1 + 1)) 0 10 (some K.2.2.1)) (Kt (amAlloc K 9 (nFld 9))) d := draft_r hD.2 (fun j => R2o _ _ (by omega) (by omega) (by omega)) (R2o _ _ (by omega) (by omega) (by omega)) (fun x _ hx2 => Kt_o (by omega)) (by rw [kn]; omega)
        have hr : OldR (rf R 0 10) R (setF (Rt (setF R 37 (3 * s.toNat + c) (some d)) K.2.2.1 (K.2.2.1 + 1)) 0 10 (some K.2.2.1)) := ⟨fun x j hx1 hx2 => R2o x j (by omega) (by omega) (by rw [hd] at hx2; omega), fun j => R2o 3 j (by omega) (by omega) (by omega)⟩
        generalize setF (Rt (setF R 37 (3 * s.toNat + c) (some d)) K.2.2.1 (K.2.2.1 + 1)) 0 10 (some K.2.2.1) = R2 at *
        have k2n : (Kt (amAlloc K 9 (nFld 9))).2.2.1 ≤ K.2.2.1 + 8 := by rw [kn]; omega
        generalize Kt (amAlloc K 9 (nFld 9)) = K2 at *
        have rd2 : rf R2 0 10 = K.2.2.1 := rf_eq R2d
        have hl2 : OldL (rf R 0 10) L L2 := by rw [hd]; exact hl
        refine way_ref (X := setF (setF (setF J1 0 11 0) 38 (3 * s.toNat + c) r) 39 s.toNat ((c : Int) + 1)) hI hL2 q1 q2 hc (fun j => by rw [setF_n (by omega), setF_n (by omega), setF_n (by omega)]; exact J1o _ _ (by omega)) (by rw [setF_n (by omega), setF_n (by omega)]; exact x2) ?_ (fun _ J fz h79 h80 h81 h82 => ⟨hcc.symm, ?_⟩) (fun e => by rw [hok] at e; cases e)
        · rw [bM_set (by omega) (by omega), bM_set (by omega) (by omega)]; exact xb
        · rw [hcn] at fz h79 h80 h81 h82 ⊢
          rw [hcc]
          have fd : ∀ j, J d j = J1 d j := fun j => by rw [fz d j (by omega) (by omega) (by omega), setF_n (by omega), setF_n (by omega), setF_n (by omega)]
          have hfit : FitC J L2 d (textS (bM I) (I 77 2).toNat) := ⟨by rw [fd]; exact fit.1, by rw [fd]; exact fit.2.1, fit.2.2⟩
          have tn := text_new (t := 80 + 3 * s.toNat + c) hDo hok hfit h79 h80 h81 h82
          exact way_inv hI hd hs5 hcc (by omega) (by omega) J1o fz tn hL2 R2d hD2 hr hk hl2 R2w k2n kz
      · by_cases e : (textS (bM I) (I 77 2).toNat).2.1 = true
        · exact absurd (fv.1 e) q4
        · have e : (textS (bM I) (I 77 2).toNat).2.1 = false := by simpa using e
          have := fv.2.2 e
          have := b90 e
          omega
      · refine way_ref (X := setF J1 0 11 0) hI hL q1 q2 hc (fun j => by rw [setF_n (by omega)]; exact J1o _ _ (by omega)) x2 xb (fun e => absurd (fv.1 e) q4) (fun e J fy => ⟨rfl, ?_⟩)
        rw [hcn] at fy
        exact way_bad hI hd hs5 hcc (by omega) J1o fy hl
  · exact w_137_0 hL ⟨fun _ => ⟨fun n => absurd n q2, fun _ => fin_b (inv_up hI) rfl⟩, fun n => absurd (show (0 : Int) ≤ s ∧ s ≤ 4 by omega) n⟩
  · exact w_137_0 hL ⟨fun n => absurd (show 0 ≤ s ∧ s < 5 by omega) q1, fun _ => fin_b (inv_up hI) rfl⟩
