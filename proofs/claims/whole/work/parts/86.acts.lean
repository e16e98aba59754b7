def pAct (a j : Nat) : Prop := ¬(a = 2 ∧ j = 5) ∧ a ≠ 13 ∧ ¬(a = 77 ∧ (j = 51 ∨ j = 68)) ∧ a ≠ 118
theorem up_43 {N : Nat} {I J : IH} {L : LH} {R : RH} {K : KH} (hI : Inv N I L R K) (h : Ag pAct I J) (h2 : J 2 5 = J 77 51) (h3 : 0 ≤ J 77 51 ∧ J 77 51 ≤ 100) (h4 : ∀ i : Nat, i < 20 → (i : Int) < J 77 51 → J 13 i = J 118 i) : Inv (N + 1) J L R K := by
  obtain ⟨g1, g2, g3, g4, g5, g6, g7, g8, g9, g10, g11, g12, g13, g14, g15⟩ := hI
  refine ⟨g1, g2, invS_a g3 (ag_m h ?_), invD_a g4 (ag_m h ?_), invE_a g5 (ag_m h ?_), invC_a g6 (ag_m h ?_), invP_a g7 (ag_m h ?_), invT_a g8 (ag_m h ?_), invL_a g9 (ag_m h ?_), ⟨h2, h3.1, h3.2, h4⟩, invX_a g11 (ag_m h ?_), invR_a g12 (ag_m h ?_) (fun _ _ _ _ => rfl), invW_a g13 (ag_m h ?_) (fun _ _ _ _ => rfl), by omega, by omega⟩
  · intro a j q; unfold pS at q; unfold pAct; omega
  · intro a j q; unfold pD at q; unfold pAct; omega
  · intro a j q; unfold pE at q; unfold pAct; omega
  · intro a j q; unfold pC at q; unfold pAct; omega
  · intro a j q; unfold pP at q; unfold pAct; omega
  · intro a j q; unfold pT at q; unfold pAct; omega
  · intro a j q; unfold pL at q; unfold pAct; omega
  · intro a j q; unfold pX at q; unfold pAct; omega
  · intro a j q; unfold pR at q; unfold pAct; omega
  · intro a j q; unfold pW at q; unfold pAct; omega

set_option maxRecDepth 8000 in
theorem c43_1_0 {N : Nat} {sc : Nat × (Nat → Int)} {I : IH} {L : LH} {R : RH} {K : KH} {r x : Int} (hI : Inv N I L R K) (hr : 0 ≤ r ∧ r < I 77 7) (hm : I 83 r.toNat = 1) : E sc 44 0 [some (aR (some 0)), some (aI r), some (aI 0), some (aI x)] [] I L R K (fun rv I1 L1 R1 K1 => E sc 163 0 [some (aR (some 77)), some (aI r), some (aI 0), some (aI x)] [] I1 L1 R1 K1 (Fin (N + 1) rv)) := by
  have hL := hI.1
  obtain ⟨b1, b2, b3, b4, -⟩ := iR hI
  obtain ⟨g1, g2⟩ := b4 r.toNat (by omega)
  have k0 := g2.1
  have a1 := g2.2.1
  have a3 := g2.2.2.2.1
  have hk : I (rf R 3 r.toNat) 1 = 1 := by omega
  have hu : Inv (N + 1) (setF (setF (setF (setF (setF (setF (setF I 2 5 0) 13 0 10) 2 5 1) 77 51 0) 77 68 r) 118 0 10) 77 51 1) L R K := by
    refine up_43 hI (ag_s (ag_s (ag_s (ag_s (ag_s (ag_s (ag_s ag_r (by unfold pAct; omega)) (by unfold pAct; omega)) (by unfold pAct; omega)) (by unfold pAct; omega)) (by unfold pAct; omega)) (by unfold pAct; omega)) (by unfold pAct; omega)) rfl (by show (0 : Int) ≤ 1 ∧ (1 : Int) ≤ 100; omega) (fun i h1 h2 => ?_)
    have h2 : (i : Int) < 1 := h2
    have h3 : i = 0 := by omega
    rcases h3 with rfl <;> rfl
  refine pr_44_1_0 hL hk hm k0.1 ?_
  rw [a3.1]
  exact ⟨fun q1 => ⟨(by first | omega | exact k0.2.1 | exact ⟨by omega, g1⟩), ⟨(by first | omega | exact k0.2.1 | exact ⟨by omega, g1⟩), ⟨(by first | omega | exact k0.2.1 | exact ⟨by omega, g1⟩), ⟨(by first | omega | exact k0.2.1 | exact ⟨by omega, g1⟩), ⟨(by first | omega | exact k0.2.1 | exact ⟨by omega, g1⟩), ⟨(by first | omega | exact k0.2.1 | exact ⟨by omega, g1⟩), ⟨fun q2 => ⟨fun q3 => ⟨(by first | omega | exact k0.2.1 | exact ⟨by omega, g1⟩), ⟨(by first | omega | exact k0.2.1 | exact ⟨by omega, g1⟩), (by first | (exfalso; omega) | exact fin_b hu rfl)⟩⟩, fun q3 => (by first | (exfalso; omega) | exact fin_b hu rfl)⟩, fun q2 => (by first | (exfalso; omega) | exact fin_b hu rfl)⟩⟩⟩⟩⟩⟩⟩, fun q1 => ⟨(by first | omega | exact k0.2.1 | exact ⟨by omega, g1⟩), ⟨fun q4 => ⟨fun q5 => ⟨(by first | omega | exact k0.2.1 | exact ⟨by omega, g1⟩), ⟨(by first | omega | exact k0.2.1 | exact ⟨by omega, g1⟩), (by first | (exfalso; omega) | exact fin_b hu rfl)⟩⟩, fun q5 => (by first | (exfalso; omega) | exact fin_b hu rfl)⟩, fun q4 => (by first | (exfalso; omega) | exact fin_b hu rfl)⟩⟩⟩

set_option maxRecDepth 8000 in
theorem c43_1_1 {N : Nat} {sc : Nat × (Nat → Int)} {I : IH} {L : LH} {R : RH} {K : KH} {r x : Int} (hI : Inv N I L R K) (hr : 0 ≤ r ∧ r < I 77 7) (hm : I 83 r.toNat = 1) : E sc 44 0 [some (aR (some 0)), some (aI r), some (aI 1), some (aI x)] [] I L R K (fun rv I1 L1 R1 K1 => E sc 163 0 [some (aR (some 77)), some (aI r), some (aI 1), some (aI x)] [] I1 L1 R1 K1 (Fin (N + 1) rv)) := by
  have hL := hI.1
  obtain ⟨b1, b2, b3, b4, -⟩ := iR hI
  obtain ⟨g1, g2⟩ := b4 r.toNat (by omega)
  have k0 := g2.1
  have a1 := g2.2.1
  have a3 := g2.2.2.2.1
  have hk : I (rf R 3 r.toNat) 1 = 1 := by omega
  have hu : Inv (N + 1) (setF (setF (setF (setF (setF (setF (setF (setF (setF (setF (setF (setF (setF (setF (setF I 2 5 0) 13 0 20) 2 5 1) 13 1 11) 2 5 2) 13 2 10) 2 5 3) 77 51 0) 77 68 r) 118 0 20) 77 51 1) 118 1 11) 77 51 2) 118 2 10) 77 51 3) L R K := by
    refine up_43 hI (ag_s (ag_s (ag_s (ag_s (ag_s (ag_s (ag_s (ag_s (ag_s (ag_s (ag_s (ag_s (ag_s (ag_s (ag_s ag_r (by unfold pAct; omega)) (by unfold pAct; omega)) (by unfold pAct; omega)) (by unfold pAct; omega)) (by unfold pAct; omega)) (by unfold pAct; omega)) (by unfold pAct; omega)) (by unfold pAct; omega)) (by unfold pAct; omega)) (by unfold pAct; omega)) (by unfold pAct; omega)) (by unfold pAct; omega)) (by unfold pAct; omega)) (by unfold pAct; omega)) (by unfold pAct; omega)) rfl (by show (0 : Int) ≤ 3 ∧ (3 : Int) ≤ 100; omega) (fun i h1 h2 => ?_)
    have h2 : (i : Int) < 3 := h2
    have h3 : i = 0 ∨ i = 1 ∨ i = 2 := by omega
    rcases h3 with rfl | rfl | rfl <;> rfl
  refine pr_44_1_1 hL hk hm k0.1 ?_
  rw [a3.1]
  exact ⟨fun q1 => ⟨(by first | omega | exact k0.2.1 | exact ⟨by omega, g1⟩), ⟨(by first | omega | exact k0.2.1 | exact ⟨by omega, g1⟩), ⟨(by first | omega | exact k0.2.1 | exact ⟨by omega, g1⟩), ⟨(by first | omega | exact k0.2.1 | exact ⟨by omega, g1⟩), ⟨(by first | omega | exact k0.2.1 | exact ⟨by omega, g1⟩), ⟨(by first | omega | exact k0.2.1 | exact ⟨by omega, g1⟩), ⟨(by first | omega | exact k0.2.1 | exact ⟨by omega, g1⟩), ⟨(by first | omega | exact k0.2.1 | exact ⟨by omega, g1⟩), ⟨(by first | omega | exact k0.2.1 | exact ⟨by omega, g1⟩), ⟨fun q2 => ⟨fun q3 => ⟨(by first | omega | exact k0.2.1 | exact ⟨by omega, g1⟩), ⟨(by first | omega | exact k0.2.1 | exact ⟨by omega, g1⟩), ⟨(by first | omega | exact k0.2.1 | exact ⟨by omega, g1⟩), ⟨(by first | omega | exact k0.2.1 | exact ⟨by omega, g1⟩), (by first | (exfalso; omega) | exact fin_b hu rfl)⟩⟩⟩⟩, fun q3 => (by first | (exfalso; omega) | exact fin_b hu rfl)⟩, fun q2 => (by first | (exfalso; omega) | exact fin_b hu rfl)⟩⟩⟩⟩⟩⟩⟩⟩⟩⟩, fun q1 => ⟨(by first | omega | exact k0.2.1 | exact ⟨by omega, g1⟩), ⟨fun q4 => ⟨fun q5 => ⟨(by first | omega | exact k0.2.1 | exact ⟨by omega, g1⟩), ⟨(by first | omega | exact k0.2.1 | exact ⟨by omega, g1⟩), ⟨(by first | omega | exact k0.2.1 | exact ⟨by omega, g1⟩), ⟨(by first | omega | exact k0.2.1 | exact ⟨by omega, g1⟩), (by first | (exfalso; omega) | exact fin_b hu rfl)⟩⟩⟩⟩, fun q5 => (by first | (exfalso; omega) | exact fin_b hu rfl)⟩, fun q4 => (by first | (exfalso; omega) | exact fin_b hu rfl)⟩⟩⟩

set_option maxRecDepth 8000 in
theorem c43_1_2 {N : Nat} {sc : Nat × (Nat → Int)} {I : IH} {L : LH} {R : RH} {K : KH} {r x : Int} (hI : Inv N I L R K) (hr : 0 ≤ r ∧ r < I 77 7) (hm : I 83 r.toNat = 1) : E sc 44 0 [some (aR (some 0)), some (aI r), some (aI 2), some (aI x)] [] I L R K (fun rv I1 L1 R1 K1 => E sc 163 0 [some (aR (some 77)), some (aI r), some (aI 2), some (aI x)] [] I1 L1 R1 K1 (Fin (N + 1) rv)) := by
  have hL := hI.1
  obtain ⟨b1, b2, b3, b4, -⟩ := iR hI
  obtain ⟨g1, g2⟩ := b4 r.toNat (by omega)
  have k0 := g2.1
  have a1 := g2.2.1
  have a3 := g2.2.2.2.1
  have hk : I (rf R 3 r.toNat) 1 = 1 := by omega
  have hu : Inv (N + 1) (setF (setF (setF (setF (setF (setF (setF (setF (setF (setF (setF (setF (setF (setF (setF (setF (setF (setF (setF (setF (setF (setF (setF I 2 5 0) 13 0 12) 2 5 1) 13 1 20) 2 5 2) 13 2 11) 2 5 3) 13 3 10) 2 5 4) 13 4 10) 2 5 5) 77 51 0) 77 68 r) 118 0 12) 77 51 1) 118 1 20) 77 51 2) 118 2 11) 77 51 3) 118 3 10) 77 51 4) 118 4 10) 77 51 5) L R K := by
    refine up_43 hI (ag_s (ag_s (ag_s (ag_s (ag_s (ag_s (ag_s (ag_s (ag_s (ag_s (ag_s (ag_s (ag_s (ag_s (ag_s (ag_s (ag_s (ag_s (ag_s (ag_s (ag_s (ag_s (ag_s ag_r (by unfold pAct; omega)) (by unfold pAct; omega)) (by unfold pAct; omega)) (by unfold pAct; omega)) (by unfold pAct; omega)) (by unfold pAct; omega)) (by unfold pAct; omega)) (by unfold pAct; omega)) (by unfold pAct; omega)) (by unfold pAct; omega)) (by unfold pAct; omega)) (by unfold pAct; omega)) (by unfold pAct; omega)) (by unfold pAct; omega)) (by unfold pAct; omega)) (by unfold pAct; omega)) (by unfold pAct; omega)) (by unfold pAct; omega)) (by unfold pAct; omega)) (by unfold pAct; omega)) (by unfold pAct; omega)) (by unfold pAct; omega)) (by unfold pAct; omega)) rfl (by show (0 : Int) ≤ 5 ∧ (5 : Int) ≤ 100; omega) (fun i h1 h2 => ?_)
    have h2 : (i : Int) < 5 := h2
    have h3 : i = 0 ∨ i = 1 ∨ i = 2 ∨ i = 3 ∨ i = 4 := by omega
    rcases h3 with rfl | rfl | rfl | rfl | rfl <;> rfl
  refine pr_44_1_2 hL hk hm k0.1 ?_
  rw [a3.1]
  exact ⟨fun q1 => ⟨(by first | omega | exact k0.2.1 | exact ⟨by omega, g1⟩), ⟨(by first | omega | exact k0.2.1 | exact ⟨by omega, g1⟩), ⟨(by first | omega | exact k0.2.1 | exact ⟨by omega, g1⟩), ⟨(by first | omega | exact k0.2.1 | exact ⟨by omega, g1⟩), ⟨(by first | omega | exact k0.2.1 | exact ⟨by omega, g1⟩), ⟨(by first | omega | exact k0.2.1 | exact ⟨by omega, g1⟩), ⟨(by first | omega | exact k0.2.1 | exact ⟨by omega, g1⟩), ⟨(by first | omega | exact k0.2.1 | exact ⟨by omega, g1⟩), ⟨(by first | omega | exact k0.2.1 | exact ⟨by omega, g1⟩), ⟨(by first | omega | exact k0.2.1 | exact ⟨by omega, g1⟩), ⟨(by first | omega | exact k0.2.1 | exact ⟨by omega, g1⟩), ⟨(by first | omega | exact k0.2.1 | exact ⟨by omega, g1⟩), ⟨(by first | omega | exact k0.2.1 | exact ⟨by omega, g1⟩), ⟨(by first | omega | exact k0.2.1 | exact ⟨by omega, g1⟩), ⟨(by first | omega | exact k0.2.1 | exact ⟨by omega, g1⟩), ⟨fun q2 => ⟨fun q3 => ⟨(by first | omega | exact k0.2.1 | exact ⟨by omega, g1⟩), ⟨(by first | omega | exact k0.2.1 | exact ⟨by omega, g1⟩), ⟨(by first | omega | exact k0.2.1 | exact ⟨by omega, g1⟩), ⟨(by first | omega | exact k0.2.1 | exact ⟨by omega, g1⟩), ⟨(by first | omega | exact k0.2.1 | exact ⟨by omega, g1⟩), ⟨(by first | omega | exact k0.2.1 | exact ⟨by omega, g1⟩), ⟨(by first | omega | exact k0.2.1 | exact ⟨by omega, g1⟩), (by first | (exfalso; omega) | exact fin_b hu rfl)⟩⟩⟩⟩⟩⟩⟩, fun q3 => (by first | (exfalso; omega) | exact fin_b hu rfl)⟩, fun q2 => (by first | (exfalso; omega) | exact fin_b hu rfl)⟩⟩⟩⟩⟩⟩⟩⟩⟩⟩⟩⟩⟩⟩⟩⟩, fun q1 => ⟨(by first | omega | exact k0.2.1 | exact ⟨by omega, g1⟩), ⟨fun q4 => ⟨fun q5 => ⟨(by first | omega | exact k0.2.1 | exact ⟨by omega, g1⟩), ⟨(by first | omega | exact k0.2.1 | exact ⟨by omega, g1⟩), ⟨(by first | omega | exact k0.2.1 | exact ⟨by omega, g1⟩), ⟨(by first | omega | exact k0.2.1 | exact ⟨by omega, g1⟩), ⟨(by first | omega | exact k0.2.1 | exact ⟨by omega, g1⟩), ⟨(by first | omega | exact k0.2.1 | exact ⟨by omega, g1⟩), ⟨(by first | omega | exact k0.2.1 | exact ⟨by omega, g1⟩), (by first | (exfalso; omega) | exact fin_b hu rfl)⟩⟩⟩⟩⟩⟩⟩, fun q5 => (by first | (exfalso; omega) | exact fin_b hu rfl)⟩, fun q4 => (by first | (exfalso; omega) | exact fin_b hu rfl)⟩⟩⟩

set_option maxRecDepth 8000 in
theorem c43_2_0 {N : Nat} {sc : Nat × (Nat → Int)} {I : IH} {L : LH} {R : RH} {K : KH} {r x : Int} (hI : Inv N I L R K) (hr : 0 ≤ r ∧ r < I 77 7) (hm : I 83 r.toNat = 2) : E sc 44 0 [some (aR (some 0)), some (aI r), some (aI 0), some (aI x)] [] I L R K (fun rv I1 L1 R1 K1 => E sc 163 0 [some (aR (some 77)), some (aI r), some (aI 0), some (aI x)] [] I1 L1 R1 K1 (Fin (N + 1) rv)) := by
  have hL := hI.1
  obtain ⟨b1, b2, b3, b4, -⟩ := iR hI
  obtain ⟨g1, g2⟩ := b4 r.toNat (by omega)
  have k0 := g2.1
  have a1 := g2.2.1
  have a3 := g2.2.2.2.1
  have hk : I (rf R 3 r.toNat) 1 = 2 := by omega
  have hu : Inv (N + 1) (setF (setF (setF (setF (setF (setF (setF (setF (setF (setF (setF I 2 5 0) 13 0 30) 2 5 1) 13 1 10) 2 5 2) 77 51 0) 77 68 r) 118 0 30) 77 51 1) 118 1 10) 77 51 2) L R K := by
    refine up_43 hI (ag_s (ag_s (ag_s (ag_s (ag_s (ag_s (ag_s (ag_s (ag_s (ag_s (ag_s ag_r (by unfold pAct; omega)) (by unfold pAct; omega)) (by unfold pAct; omega)) (by unfold pAct; omega)) (by unfold pAct; omega)) (by unfold pAct; omega)) (by unfold pAct; omega)) (by unfold pAct; omega)) (by unfold pAct; omega)) (by unfold pAct; omega)) (by unfold pAct; omega)) rfl (by show (0 : Int) ≤ 2 ∧ (2 : Int) ≤ 100; omega) (fun i h1 h2 => ?_)
    have h2 : (i : Int) < 2 := h2
    have h3 : i = 0 ∨ i = 1 := by omega
    rcases h3 with rfl | rfl <;> rfl
  refine pr_44_2_0 hL hk hm k0.1 ?_
  rw [a3.1]
  exact ⟨fun q1 => ⟨(by first | omega | exact k0.2.1 | exact ⟨by omega, g1⟩), ⟨(by first | omega | exact k0.2.1 | exact ⟨by omega, g1⟩), ⟨(by first | omega | exact k0.2.1 | exact ⟨by omega, g1⟩), ⟨(by first | omega | exact k0.2.1 | exact ⟨by omega, g1⟩), ⟨(by first | omega | exact k0.2.1 | exact ⟨by omega, g1⟩), ⟨(by first | omega | exact k0.2.1 | exact ⟨by omega, g1⟩), ⟨fun q2 => ⟨fun q3 => ⟨(by first | omega | exact k0.2.1 | exact ⟨by omega, g1⟩), ⟨(by first | omega | exact k0.2.1 | exact ⟨by omega, g1⟩), (by first | (exfalso; omega) | exact fin_b hu rfl)⟩⟩, fun q3 => (by first | (exfalso; omega) | exact fin_b hu rfl)⟩, fun q2 => (by first | (exfalso; omega) | exact fin_b hu rfl)⟩⟩⟩⟩⟩⟩⟩, fun q1 => ⟨(by first | omega | exact k0.2.1 | exact ⟨by omega, g1⟩), ⟨fun q4 => ⟨fun q5 => ⟨(by first | omega | exact k0.2.1 | exact ⟨by omega, g1⟩), ⟨(by first | omega | exact k0.2.1 | exact ⟨by omega, g1⟩), (by first | (exfalso; omega) | exact fin_b hu rfl)⟩⟩, fun q5 => (by first | (exfalso; omega) | exact fin_b hu rfl)⟩, fun q4 => (by first | (exfalso; omega) | exact fin_b hu rfl)⟩⟩⟩

set_option maxRecDepth 8000 in
theorem c43_2_1 {N : Nat} {sc : Nat × (Nat → Int)} {I : IH} {L : LH} {R : RH} {K : KH} {r x : Int} (hI : Inv N I L R K) (hr : 0 ≤ r ∧ r < I 77 7) (hm : I 83 r.toNat = 2) : E sc 44 0 [some (aR (some 0)), some (aI r), some (aI 1), some (aI x)] [] I L R K (fun rv I1 L1 R1 K1 => E sc 163 0 [some (aR (some 77)), some (aI r), some (aI 1), some (aI x)] [] I1 L1 R1 K1 (Fin (N + 1) rv)) := by
  have hL := hI.1
  obtain ⟨b1, b2, b3, b4, -⟩ := iR hI
  obtain ⟨g1, g2⟩ := b4 r.toNat (by omega)
  have k0 := g2.1
  have a1 := g2.2.1
  have a3 := g2.2.2.2.1
  have hk : I (rf R 3 r.toNat) 1 = 2 := by omega
  have hu : Inv (N + 1) (setF (setF (setF (setF (setF (setF (setF (setF (setF (setF (setF (setF (setF (setF (setF I 2 5 0) 13 0 11) 2 5 1) 13 1 30) 2 5 2) 13 2 10) 2 5 3) 77 51 0) 77 68 r) 118 0 11) 77 51 1) 118 1 30) 77 51 2) 118 2 10) 77 51 3) L R K := by
    refine up_43 hI (ag_s (ag_s (ag_s (ag_s (ag_s (ag_s (ag_s (ag_s (ag_s (ag_s (ag_s (ag_s (ag_s (ag_s (ag_s ag_r (by unfold pAct; omega)) (by unfold pAct; omega)) (by unfold pAct; omega)) (by unfold pAct; omega)) (by unfold pAct; omega)) (by unfold pAct; omega)) (by unfold pAct; omega)) (by unfold pAct; omega)) (by unfold pAct; omega)) (by unfold pAct; omega)) (by unfold pAct; omega)) (by unfold pAct; omega)) (by unfold pAct; omega)) (by unfold pAct; omega)) (by unfold pAct; omega)) rfl (by show (0 : Int) ≤ 3 ∧ (3 : Int) ≤ 100; omega) (fun i h1 h2 => ?_)
    have h2 : (i : Int) < 3 := h2
    have h3 : i = 0 ∨ i = 1 ∨ i = 2 := by omega
    rcases h3 with rfl | rfl | rfl <;> rfl
  refine pr_44_2_1 hL hk hm k0.1 ?_
  rw [a3.1]
  exact ⟨fun q1 => ⟨(by first | omega | exact k0.2.1 | exact ⟨by omega, g1⟩), ⟨(by first | omega | exact k0.2.1 | exact ⟨by omega, g1⟩), ⟨(by first | omega | exact k0.2.1 | exact ⟨by omega, g1⟩), ⟨(by first | omega | exact k0.2.1 | exact ⟨by omega, g1⟩), ⟨(by first | omega | exact k0.2.1 | exact ⟨by omega, g1⟩), ⟨(by first | omega | exact k0.2.1 | exact ⟨by omega, g1⟩), ⟨(by first | omega | exact k0.2.1 | exact ⟨by omega, g1⟩), ⟨(by first | omega | exact k0.2.1 | exact ⟨by omega, g1⟩), ⟨fun q2 => ⟨fun q3 => ⟨(by first | omega | exact k0.2.1 | exact ⟨by omega, g1⟩), ⟨(by first | omega | exact k0.2.1 | exact ⟨by omega, g1⟩), ⟨(by first | omega | exact k0.2.1 | exact ⟨by omega, g1⟩), (by first | (exfalso; omega) | exact fin_b hu rfl)⟩⟩⟩, fun q3 => (by first | (exfalso; omega) | exact fin_b hu rfl)⟩, fun q2 => (by first | (exfalso; omega) | exact fin_b hu rfl)⟩⟩⟩⟩⟩⟩⟩⟩⟩, fun q1 => ⟨(by first | omega | exact k0.2.1 | exact ⟨by omega, g1⟩), ⟨fun q4 => ⟨fun q5 => ⟨(by first | omega | exact k0.2.1 | exact ⟨by omega, g1⟩), ⟨(by first | omega | exact k0.2.1 | exact ⟨by omega, g1⟩), ⟨(by first | omega | exact k0.2.1 | exact ⟨by omega, g1⟩), (by first | (exfalso; omega) | exact fin_b hu rfl)⟩⟩⟩, fun q5 => (by first | (exfalso; omega) | exact fin_b hu rfl)⟩, fun q4 => (by first | (exfalso; omega) | exact fin_b hu rfl)⟩⟩⟩

set_option maxRecDepth 8000 in
theorem c43_2_2 {N : Nat} {sc : Nat × (Nat → Int)} {I : IH} {L : LH} {R : RH} {K : KH} {r x : Int} (hI : Inv N I L R K) (hr : 0 ≤ r ∧ r < I 77 7) (hm : I 83 r.toNat = 2) : E sc 44 0 [some (aR (some 0)), some (aI r), some (aI 2), some (aI x)] [] I L R K (fun rv I1 L1 R1 K1 => E sc 163 0 [some (aR (some 77)), some (aI r), some (aI 2), some (aI x)] [] I1 L1 R1 K1 (Fin (N + 1) rv)) := by
  have hL := hI.1
  obtain ⟨b1, b2, b3, b4, -⟩ := iR hI
  obtain ⟨g1, g2⟩ := b4 r.toNat (by omega)
  have k0 := g2.1
  have a1 := g2.2.1
  have a3 := g2.2.2.2.1
  have hk : I (rf R 3 r.toNat) 1 = 2 := by omega
  have hu : Inv (N + 1) (setF (setF (setF (setF (setF (setF (setF (setF (setF (setF (setF (setF (setF (setF (setF (setF (setF (setF (setF (setF (setF (setF (setF (setF (setF (setF (setF I 2 5 0) 13 0 12) 2 5 1) 13 1 11) 2 5 2) 13 2 30) 2 5 3) 13 3 10) 2 5 4) 13 4 30) 2 5 5) 13 5 10) 2 5 6) 77 51 0) 77 68 r) 118 0 12) 77 51 1) 118 1 11) 77 51 2) 118 2 30) 77 51 3) 118 3 10) 77 51 4) 118 4 30) 77 51 5) 118 5 10) 77 51 6) L R K := by
    refine up_43 hI (ag_s (ag_s (ag_s (ag_s (ag_s (ag_s (ag_s (ag_s (ag_s (ag_s (ag_s (ag_s (ag_s (ag_s (ag_s (ag_s (ag_s (ag_s (ag_s (ag_s (ag_s (ag_s (ag_s (ag_s (ag_s (ag_s (ag_s ag_r (by unfold pAct; omega)) (by unfold pAct; omega)) (by unfold pAct; omega)) (by unfold pAct; omega)) (by unfold pAct; omega)) (by unfold pAct; omega)) (by unfold pAct; omega)) (by unfold pAct; omega)) (by unfold pAct; omega)) (by unfold pAct; omega)) (by unfold pAct; omega)) (by unfold pAct; omega)) (by unfold pAct; omega)) (by unfold pAct; omega)) (by unfold pAct; omega)) (by unfold pAct; omega)) (by unfold pAct; omega)) (by unfold pAct; omega)) (by unfold pAct; omega)) (by unfold pAct; omega)) (by unfold pAct; omega)) (by unfold pAct; omega)) (by unfold pAct; omega)) (by unfold pAct; omega)) (by unfold pAct; omega)) (by unfold pAct; omega)) (by unfold pAct; omega)) rfl (by show (0 : Int) ≤ 6 ∧ (6 : Int) ≤ 100; omega) (fun i h1 h2 => ?_)
    have h2 : (i : Int) < 6 := h2
    have h3 : i = 0 ∨ i = 1 ∨ i = 2 ∨ i = 3 ∨ i = 4 ∨ i = 5 := by omega
    rcases h3 with rfl | rfl | rfl | rfl | rfl | rfl <;> rfl
  refine pr_44_2_2 hL hk hm k0.1 ?_
  rw [a3.1]
  exact ⟨fun q1 => ⟨(by first | omega | exact k0.2.1 | exact ⟨by omega, g1⟩), ⟨(by first | omega | exact k0.2.1 | exact ⟨by omega, g1⟩), ⟨(by first | omega | exact k0.2.1 | exact ⟨by omega, g1⟩), ⟨(by first | omega | exact k0.2.1 | exact ⟨by omega, g1⟩), ⟨(by first | omega | exact k0.2.1 | exact ⟨by omega, g1⟩), ⟨(by first | omega | exact k0.2.1 | exact ⟨by omega, g1⟩), ⟨(by first | omega | exact k0.2.1 | exact ⟨by omega, g1⟩), ⟨(by first | omega | exact k0.2.1 | exact ⟨by omega, g1⟩), ⟨(by first | omega | exact k0.2.1 | exact ⟨by omega, g1⟩), ⟨(by first | omega | exact k0.2.1 | exact ⟨by omega, g1⟩), ⟨(by first | omega | exact k0.2.1 | exact ⟨by omega, g1⟩), ⟨(by first | omega | exact k0.2.1 | exact ⟨by omega, g1⟩), ⟨(by first | omega | exact k0.2.1 | exact ⟨by omega, g1⟩), ⟨(by first | omega | exact k0.2.1 | exact ⟨by omega, g1⟩), ⟨fun q2 => ⟨fun q3 => ⟨(by first | omega | exact k0.2.1 | exact ⟨by omega, g1⟩), ⟨(by first | omega | exact k0.2.1 | exact ⟨by omega, g1⟩), ⟨(by first | omega | exact k0.2.1 | exact ⟨by omega, g1⟩), ⟨(by first | omega | exact k0.2.1 | exact ⟨by omega, g1⟩), ⟨(by first | omega | exact k0.2.1 | exact ⟨by omega, g1⟩), ⟨(by first | omega | exact k0.2.1 | exact ⟨by omega, g1⟩), (by first | (exfalso; omega) | exact fin_b hu rfl)⟩⟩⟩⟩⟩⟩, fun q3 => (by first | (exfalso; omega) | exact fin_b hu rfl)⟩, fun q2 => (by first | (exfalso; omega) | exact fin_b hu rfl)⟩⟩⟩⟩⟩⟩⟩⟩⟩⟩⟩⟩⟩⟩⟩, fun q1 => ⟨(by first | omega | exact k0.2.1 | exact ⟨by omega, g1⟩), ⟨fun q4 => ⟨fun q5 => ⟨(by first | omega | exact k0.2.1 | exact ⟨by omega, g1⟩), ⟨(by first | omega | exact k0.2.1 | exact ⟨by omega, g1⟩), ⟨(by first | omega | exact k0.2.1 | exact ⟨by omega, g1⟩), ⟨(by first | omega | exact k0.2.1 | exact ⟨by omega, g1⟩), ⟨(by first | omega | exact k0.2.1 | exact ⟨by omega, g1⟩), ⟨(by first | omega | exact k0.2.1 | exact ⟨by omega, g1⟩), (by first | (exfalso; omega) | exact fin_b hu rfl)⟩⟩⟩⟩⟩⟩, fun q5 => (by first | (exfalso; omega) | exact fin_b hu rfl)⟩, fun q4 => (by first | (exfalso; omega) | exact fin_b hu rfl)⟩⟩⟩

set_option maxRecDepth 8000 in
theorem c43_3_0 {N : Nat} {sc : Nat × (Nat → Int)} {I : IH} {L : LH} {R : RH} {K : KH} {r x : Int} (hI : Inv N I L R K) (hr : 0 ≤ r ∧ r < I 77 7) (hm : I 83 r.toNat = 3) : E sc 44 0 [some (aR (some 0)), some (aI r), some (aI 0), some (aI x)] [] I L R K (fun rv I1 L1 R1 K1 => E sc 163 0 [some (aR (some 77)), some (aI r), some (aI 0), some (aI x)] [] I1 L1 R1 K1 (Fin (N + 1) rv)) := by
  have hL := hI.1
  obtain ⟨b1, b2, b3, b4, -⟩ := iR hI
  obtain ⟨g1, g2⟩ := b4 r.toNat (by omega)
  have k0 := g2.1
  have a1 := g2.2.1
  have a3 := g2.2.2.2.1
  have hk : I (rf R 3 r.toNat) 1 = 3 := by omega
  have hu : Inv (N + 1) (setF (setF (setF (setF (setF (setF (setF I 2 5 0) 13 0 10) 2 5 1) 77 51 0) 77 68 r) 118 0 10) 77 51 1) L R K := by
    refine up_43 hI (ag_s (ag_s (ag_s (ag_s (ag_s (ag_s (ag_s ag_r (by unfold pAct; omega)) (by unfold pAct; omega)) (by unfold pAct; omega)) (by unfold pAct; omega)) (by unfold pAct; omega)) (by unfold pAct; omega)) (by unfold pAct; omega)) rfl (by show (0 : Int) ≤ 1 ∧ (1 : Int) ≤ 100; omega) (fun i h1 h2 => ?_)
    have h2 : (i : Int) < 1 := h2
    have h3 : i = 0 := by omega
    rcases h3 with rfl <;> rfl
  refine pr_44_3_0 hL hk hm k0.1 ?_
  rw [a3.1]
  exact ⟨fun q1 => ⟨(by first | omega | exact k0.2.1 | exact ⟨by omega, g1⟩), ⟨(by first | omega | exact k0.2.1 | exact ⟨by omega, g1⟩), ⟨(by first | omega | exact k0.2.1 | exact ⟨by omega, g1⟩), ⟨(by first | omega | exact k0.2.1 | exact ⟨by omega, g1⟩), ⟨(by first | omega | exact k0.2.1 | exact ⟨by omega, g1⟩), ⟨(by first | omega | exact k0.2.1 | exact ⟨by omega, g1⟩), ⟨fun q2 => ⟨fun q3 => ⟨(by first | omega | exact k0.2.1 | exact ⟨by omega, g1⟩), ⟨(by first | omega | exact k0.2.1 | exact ⟨by omega, g1⟩), (by first | (exfalso; omega) | exact fin_b hu rfl)⟩⟩, fun q3 => (by first | (exfalso; omega) | exact fin_b hu rfl)⟩, fun q2 => (by first | (exfalso; omega) | exact fin_b hu rfl)⟩⟩⟩⟩⟩⟩⟩, fun q1 => ⟨(by first | omega | exact k0.2.1 | exact ⟨by omega, g1⟩), ⟨fun q4 => ⟨fun q5 => ⟨(by first | omega | exact k0.2.1 | exact ⟨by omega, g1⟩), ⟨(by first | omega | exact k0.2.1 | exact ⟨by omega, g1⟩), (by first | (exfalso; omega) | exact fin_b hu rfl)⟩⟩, fun q5 => (by first | (exfalso; omega) | exact fin_b hu rfl)⟩, fun q4 => (by first | (exfalso; omega) | exact fin_b hu rfl)⟩⟩⟩

set_option maxRecDepth 8000 in
theorem c43_3_1 {N : Nat} {sc : Nat × (Nat → Int)} {I : IH} {L : LH} {R : RH} {K : KH} {r x : Int} (hI : Inv N I L R K) (hr : 0 ≤ r ∧ r < I 77 7) (hm : I 83 r.toNat = 3) : E sc 44 0 [some (aR (some 0)), some (aI r), some (aI 1), some (aI x)] [] I L R K (fun rv I1 L1 R1 K1 => E sc 163 0 [some (aR (some 77)), some (aI r), some (aI 1), some (aI x)] [] I1 L1 R1 K1 (Fin (N + 1) rv)) := by
  have hL := hI.1
  obtain ⟨b1, b2, b3, b4, -⟩ := iR hI
  obtain ⟨g1, g2⟩ := b4 r.toNat (by omega)
  have k0 := g2.1
  have a1 := g2.2.1
  have a3 := g2.2.2.2.1
  have hk : I (rf R 3 r.toNat) 1 = 3 := by omega
  have hu : Inv (N + 1) (setF (setF (setF (setF (setF (setF (setF (setF (setF (setF (setF I 2 5 0) 13 0 11) 2 5 1) 13 1 10) 2 5 2) 77 51 0) 77 68 r) 118 0 11) 77 51 1) 118 1 10) 77 51 2) L R K := by
    refine up_43 hI (ag_s (ag_s (ag_s (ag_s (ag_s (ag_s (ag_s (ag_s (ag_s (ag_s (ag_s ag_r (by unfold pAct; omega)) (by unfold pAct; omega)) (by unfold pAct; omega)) (by unfold pAct; omega)) (by unfold pAct; omega)) (by unfold pAct; omega)) (by unfold pAct; omega)) (by unfold pAct; omega)) (by unfold pAct; omega)) (by unfold pAct; omega)) (by unfold pAct; omega)) rfl (by show (0 : Int) ≤ 2 ∧ (2 : Int) ≤ 100; omega) (fun i h1 h2 => ?_)
    have h2 : (i : Int) < 2 := h2
    have h3 : i = 0 ∨ i = 1 := by omega
    rcases h3 with rfl | rfl <;> rfl
  refine pr_44_3_1 hL hk hm k0.1 ?_
  rw [a3.1]
  exact ⟨fun q1 => ⟨(by first | omega | exact k0.2.1 | exact ⟨by omega, g1⟩), ⟨(by first | omega | exact k0.2.1 | exact ⟨by omega, g1⟩), ⟨(by first | omega | exact k0.2.1 | exact ⟨by omega, g1⟩), ⟨(by first | omega | exact k0.2.1 | exact ⟨by omega, g1⟩), ⟨(by first | omega | exact k0.2.1 | exact ⟨by omega, g1⟩), ⟨(by first | omega | exact k0.2.1 | exact ⟨by omega, g1⟩), ⟨(by first | omega | exact k0.2.1 | exact ⟨by omega, g1⟩), ⟨(by first | omega | exact k0.2.1 | exact ⟨by omega, g1⟩), ⟨fun q2 => ⟨fun q3 => ⟨(by first | omega | exact k0.2.1 | exact ⟨by omega, g1⟩), ⟨(by first | omega | exact k0.2.1 | exact ⟨by omega, g1⟩), ⟨(by first | omega | exact k0.2.1 | exact ⟨by omega, g1⟩), (by first | (exfalso; omega) | exact fin_b hu rfl)⟩⟩⟩, fun q3 => (by first | (exfalso; omega) | exact fin_b hu rfl)⟩, fun q2 => (by first | (exfalso; omega) | exact fin_b hu rfl)⟩⟩⟩⟩⟩⟩⟩⟩⟩, fun q1 => ⟨(by first | omega | exact k0.2.1 | exact ⟨by omega, g1⟩), ⟨fun q4 => ⟨fun q5 => ⟨(by first | omega | exact k0.2.1 | exact ⟨by omega, g1⟩), ⟨(by first | omega | exact k0.2.1 | exact ⟨by omega, g1⟩), ⟨(by first | omega | exact k0.2.1 | exact ⟨by omega, g1⟩), (by first | (exfalso; omega) | exact fin_b hu rfl)⟩⟩⟩, fun q5 => (by first | (exfalso; omega) | exact fin_b hu rfl)⟩, fun q4 => (by first | (exfalso; omega) | exact fin_b hu rfl)⟩⟩⟩

set_option maxRecDepth 8000 in
theorem c43_3_2 {N : Nat} {sc : Nat × (Nat → Int)} {I : IH} {L : LH} {R : RH} {K : KH} {r x : Int} (hI : Inv N I L R K) (hr : 0 ≤ r ∧ r < I 77 7) (hm : I 83 r.toNat = 3) : E sc 44 0 [some (aR (some 0)), some (aI r), some (aI 2), some (aI x)] [] I L R K (fun rv I1 L1 R1 K1 => E sc 163 0 [some (aR (some 77)), some (aI r), some (aI 2), some (aI x)] [] I1 L1 R1 K1 (Fin (N + 1) rv)) := by
  have hL := hI.1
  obtain ⟨b1, b2, b3, b4, -⟩ := iR hI
  obtain ⟨g1, g2⟩ := b4 r.toNat (by omega)
  have k0 := g2.1
  have a1 := g2.2.1
  have a3 := g2.2.2.2.1
  have hk : I (rf R 3 r.toNat) 1 = 3 := by omega
  have hu : Inv (N + 1) (setF (setF (setF (setF (setF (setF (setF (setF (setF (setF (setF (setF (setF (setF (setF (setF (setF (setF (setF (setF (setF (setF (setF I 2 5 0) 13 0 40) 2 5 1) 13 1 12) 2 5 2) 13 2 11) 2 5 3) 13 3 10) 2 5 4) 13 4 10) 2 5 5) 77 51 0) 77 68 r) 118 0 40) 77 51 1) 118 1 12) 77 51 2) 118 2 11) 77 51 3) 118 3 10) 77 51 4) 118 4 10) 77 51 5) L R K := by
    refine up_43 hI (ag_s (ag_s (ag_s (ag_s (ag_s (ag_s (ag_s (ag_s (ag_s (ag_s (ag_s (ag_s (ag_s (ag_s (ag_s (ag_s (ag_s (ag_s (ag_s (ag_s (ag_s (ag_s (ag_s ag_r (by unfold pAct; omega)) (by unfold pAct; omega)) (by unfold pAct; omega)) (by unfold pAct; omega)) (by unfold pAct; omega)) (by unfold pAct; omega)) (by unfold pAct; omega)) (by unfold pAct; omega)) (by unfold pAct; omega)) (by unfold pAct; omega)) (by unfold pAct; omega)) (by unfold pAct; omega)) (by unfold pAct; omega)) (by unfold pAct; omega)) (by unfold pAct; omega)) (by unfold pAct; omega)) (by unfold pAct; omega)) (by unfold pAct; omega)) (by unfold pAct; omega)) (by unfold pAct; omega)) (by unfold pAct; omega)) (by unfold pAct; omega)) (by unfold pAct; omega)) rfl (by show (0 : Int) ≤ 5 ∧ (5 : Int) ≤ 100; omega) (fun i h1 h2 => ?_)
    have h2 : (i : Int) < 5 := h2
    have h3 : i = 0 ∨ i = 1 ∨ i = 2 ∨ i = 3 ∨ i = 4 := by omega
    rcases h3 with rfl | rfl | rfl | rfl | rfl <;> rfl
  refine pr_44_3_2 hL hk hm k0.1 ?_
  rw [a3.1]
  exact ⟨fun q1 => ⟨(by first | omega | exact k0.2.1 | exact ⟨by omega, g1⟩), ⟨(by first | omega | exact k0.2.1 | exact ⟨by omega, g1⟩), ⟨(by first | omega | exact k0.2.1 | exact ⟨by omega, g1⟩), ⟨(by first | omega | exact k0.2.1 | exact ⟨by omega, g1⟩), ⟨(by first | omega | exact k0.2.1 | exact ⟨by omega, g1⟩), ⟨(by first | omega | exact k0.2.1 | exact ⟨by omega, g1⟩), ⟨(by first | omega | exact k0.2.1 | exact ⟨by omega, g1⟩), ⟨(by first | omega | exact k0.2.1 | exact ⟨by omega, g1⟩), ⟨(by first | omega | exact k0.2.1 | exact ⟨by omega, g1⟩), ⟨(by first | omega | exact k0.2.1 | exact ⟨by omega, g1⟩), ⟨(by first | omega | exact k0.2.1 | exact ⟨by omega, g1⟩), ⟨(by first | omega | exact k0.2.1 | exact ⟨by omega, g1⟩), ⟨(by first | omega | exact k0.2.1 | exact ⟨by omega, g1⟩), ⟨(by first | omega | exact k0.2.1 | exact ⟨by omega, g1⟩), ⟨fun q2 => ⟨fun q3 => ⟨(by first | omega | exact k0.2.1 | exact ⟨by omega, g1⟩), ⟨(by first | omega | exact k0.2.1 | exact ⟨by omega, g1⟩), ⟨(by first | omega | exact k0.2.1 | exact ⟨by omega, g1⟩), ⟨(by first | omega | exact k0.2.1 | exact ⟨by omega, g1⟩), ⟨(by first | omega | exact k0.2.1 | exact ⟨by omega, g1⟩), ⟨(by first | omega | exact k0.2.1 | exact ⟨by omega, g1⟩), (by first | (exfalso; omega) | exact fin_b hu rfl)⟩⟩⟩⟩⟩⟩, fun q3 => (by first | (exfalso; omega) | exact fin_b hu rfl)⟩, fun q2 => (by first | (exfalso; omega) | exact fin_b hu rfl)⟩⟩⟩⟩⟩⟩⟩⟩⟩⟩⟩⟩⟩⟩⟩, fun q1 => ⟨(by first | omega | exact k0.2.1 | exact ⟨by omega, g1⟩), ⟨fun q4 => ⟨fun q5 => ⟨(by first | omega | exact k0.2.1 | exact ⟨by omega, g1⟩), ⟨(by first | omega | exact k0.2.1 | exact ⟨by omega, g1⟩), ⟨(by first | omega | exact k0.2.1 | exact ⟨by omega, g1⟩), ⟨(by first | omega | exact k0.2.1 | exact ⟨by omega, g1⟩), ⟨(by first | omega | exact k0.2.1 | exact ⟨by omega, g1⟩), ⟨(by first | omega | exact k0.2.1 | exact ⟨by omega, g1⟩), (by first | (exfalso; omega) | exact fin_b hu rfl)⟩⟩⟩⟩⟩⟩, fun q5 => (by first | (exfalso; omega) | exact fin_b hu rfl)⟩, fun q4 => (by first | (exfalso; omega) | exact fin_b hu rfl)⟩⟩⟩

set_option maxRecDepth 8000 in
theorem c43_4_0 {N : Nat} {sc : Nat × (Nat → Int)} {I : IH} {L : LH} {R : RH} {K : KH} {r x : Int} (hI : Inv N I L R K) (hr : 0 ≤ r ∧ r < I 77 7) (hm : I 83 r.toNat = 4) : E sc 44 0 [some (aR (some 0)), some (aI r), some (aI 0), some (aI x)] [] I L R K (fun rv I1 L1 R1 K1 => E sc 163 0 [some (aR (some 77)), some (aI r), some (aI 0), some (aI x)] [] I1 L1 R1 K1 (Fin (N + 1) rv)) := by
  have hL := hI.1
  obtain ⟨b1, b2, b3, b4, -⟩ := iR hI
  obtain ⟨g1, g2⟩ := b4 r.toNat (by omega)
  have k0 := g2.1
  have a1 := g2.2.1
  have a3 := g2.2.2.2.1
  have hk : I (rf R 3 r.toNat) 1 = 4 := by omega
  have hu : Inv (N + 1) (setF (setF (setF (setF (setF (setF (setF (setF (setF (setF (setF I 2 5 0) 13 0 50) 2 5 1) 13 1 10) 2 5 2) 77 51 0) 77 68 r) 118 0 50) 77 51 1) 118 1 10) 77 51 2) L R K := by
    refine up_43 hI (ag_s (ag_s (ag_s (ag_s (ag_s (ag_s (ag_s (ag_s (ag_s (ag_s (ag_s ag_r (by unfold pAct; omega)) (by unfold pAct; omega)) (by unfold pAct; omega)) (by unfold pAct; omega)) (by unfold pAct; omega)) (by unfold pAct; omega)) (by unfold pAct; omega)) (by unfold pAct; omega)) (by unfold pAct; omega)) (by unfold pAct; omega)) (by unfold pAct; omega)) rfl (by show (0 : Int) ≤ 2 ∧ (2 : Int) ≤ 100; omega) (fun i h1 h2 => ?_)
    have h2 : (i : Int) < 2 := h2
    have h3 : i = 0 ∨ i = 1 := by omega
    rcases h3 with rfl | rfl <;> rfl
  refine pr_44_4_0 hL hk hm k0.1 ?_
  rw [a3.1]
  exact ⟨fun q1 => ⟨(by first | omega | exact k0.2.1 | exact ⟨by omega, g1⟩), ⟨(by first | omega | exact k0.2.1 | exact ⟨by omega, g1⟩), ⟨(by first | omega | exact k0.2.1 | exact ⟨by omega, g1⟩), ⟨(by first | omega | exact k0.2.1 | exact ⟨by omega, g1⟩), ⟨(by first | omega | exact k0.2.1 | exact ⟨by omega, g1⟩), ⟨(by first | omega | exact k0.2.1 | exact ⟨by omega, g1⟩), ⟨fun q2 => ⟨fun q3 => ⟨(by first | omega | exact k0.2.1 | exact ⟨by omega, g1⟩), ⟨(by first | omega | exact k0.2.1 | exact ⟨by omega, g1⟩), (by first | (exfalso; omega) | exact fin_b hu rfl)⟩⟩, fun q3 => (by first | (exfalso; omega) | exact fin_b hu rfl)⟩, fun q2 => (by first | (exfalso; omega) | exact fin_b hu rfl)⟩⟩⟩⟩⟩⟩⟩, fun q1 => ⟨(by first | omega | exact k0.2.1 | exact ⟨by omega, g1⟩), ⟨fun q4 => ⟨fun q5 => ⟨(by first | omega | exact k0.2.1 | exact ⟨by omega, g1⟩), ⟨(by first | omega | exact k0.2.1 | exact ⟨by omega, g1⟩), (by first | (exfalso; omega) | exact fin_b hu rfl)⟩⟩, fun q5 => (by first | (exfalso; omega) | exact fin_b hu rfl)⟩, fun q4 => (by first | (exfalso; omega) | exact fin_b hu rfl)⟩⟩⟩

set_option maxRecDepth 8000 in
theorem c43_4_1 {N : Nat} {sc : Nat × (Nat → Int)} {I : IH} {L : LH} {R : RH} {K : KH} {r x : Int} (hI : Inv N I L R K) (hr : 0 ≤ r ∧ r < I 77 7) (hm : I 83 r.toNat = 4) : E sc 44 0 [some (aR (some 0)), some (aI r), some (aI 1), some (aI x)] [] I L R K (fun rv I1 L1 R1 K1 => E sc 163 0 [some (aR (some 77)), some (aI r), some (aI 1), some (aI x)] [] I1 L1 R1 K1 (Fin (N + 1) rv)) := by
  have hL := hI.1
  obtain ⟨b1, b2, b3, b4, -⟩ := iR hI
  obtain ⟨g1, g2⟩ := b4 r.toNat (by omega)
  have k0 := g2.1
  have a1 := g2.2.1
  have a3 := g2.2.2.2.1
  have hk : I (rf R 3 r.toNat) 1 = 4 := by omega
  have hu : Inv (N + 1) (setF (setF (setF (setF (setF (setF (setF (setF (setF (setF (setF (setF (setF (setF (setF (setF (setF (setF (setF I 2 5 0) 13 0 20) 2 5 1) 13 1 11) 2 5 2) 13 2 50) 2 5 3) 13 3 10) 2 5 4) 77 51 0) 77 68 r) 118 0 20) 77 51 1) 118 1 11) 77 51 2) 118 2 50) 77 51 3) 118 3 10) 77 51 4) L R K := by
    refine up_43 hI (ag_s (ag_s (ag_s (ag_s (ag_s (ag_s (ag_s (ag_s (ag_s (ag_s (ag_s (ag_s (ag_s (ag_s (ag_s (ag_s (ag_s (ag_s (ag_s ag_r (by unfold pAct; omega)) (by unfold pAct; omega)) (by unfold pAct; omega)) (by unfold pAct; omega)) (by unfold pAct; omega)) (by unfold pAct; omega)) (by unfold pAct; omega)) (by unfold pAct; omega)) (by unfold pAct; omega)) (by unfold pAct; omega)) (by unfold pAct; omega)) (by unfold pAct; omega)) (by unfold pAct; omega)) (by unfold pAct; omega)) (by unfold pAct; omega)) (by unfold pAct; omega)) (by unfold pAct; omega)) (by unfold pAct; omega)) (by unfold pAct; omega)) rfl (by show (0 : Int) ≤ 4 ∧ (4 : Int) ≤ 100; omega) (fun i h1 h2 => ?_)
    have h2 : (i : Int) < 4 := h2
    have h3 : i = 0 ∨ i = 1 ∨ i = 2 ∨ i = 3 := by omega
    rcases h3 with rfl | rfl | rfl | rfl <;> rfl
  refine pr_44_4_1 hL hk hm k0.1 ?_
  rw [a3.1]
  exact ⟨fun q1 => ⟨(by first | omega | exact k0.2.1 | exact ⟨by omega, g1⟩), ⟨(by first | omega | exact k0.2.1 | exact ⟨by omega, g1⟩), ⟨(by first | omega | exact k0.2.1 | exact ⟨by omega, g1⟩), ⟨(by first | omega | exact k0.2.1 | exact ⟨by omega, g1⟩), ⟨(by first | omega | exact k0.2.1 | exact ⟨by omega, g1⟩), ⟨(by first | omega | exact k0.2.1 | exact ⟨by omega, g1⟩), ⟨(by first | omega | exact k0.2.1 | exact ⟨by omega, g1⟩), ⟨(by first | omega | exact k0.2.1 | exact ⟨by omega, g1⟩), ⟨(by first | omega | exact k0.2.1 | exact ⟨by omega, g1⟩), ⟨fun q2 => ⟨fun q3 => ⟨(by first | omega | exact k0.2.1 | exact ⟨by omega, g1⟩), ⟨(by first | omega | exact k0.2.1 | exact ⟨by omega, g1⟩), ⟨(by first | omega | exact k0.2.1 | exact ⟨by omega, g1⟩), ⟨(by first | omega | exact k0.2.1 | exact ⟨by omega, g1⟩), (by first | (exfalso; omega) | exact fin_b hu rfl)⟩⟩⟩⟩, fun q3 => (by first | (exfalso; omega) | exact fin_b hu rfl)⟩, fun q2 => (by first | (exfalso; omega) | exact fin_b hu rfl)⟩⟩⟩⟩⟩⟩⟩⟩⟩⟩, fun q1 => ⟨(by first | omega | exact k0.2.1 | exact ⟨by omega, g1⟩), ⟨fun q4 => ⟨fun q5 => ⟨(by first | omega | exact k0.2.1 | exact ⟨by omega, g1⟩), ⟨(by first | omega | exact k0.2.1 | exact ⟨by omega, g1⟩), ⟨(by first | omega | exact k0.2.1 | exact ⟨by omega, g1⟩), ⟨(by first | omega | exact k0.2.1 | exact ⟨by omega, g1⟩), (by first | (exfalso; omega) | exact fin_b hu rfl)⟩⟩⟩⟩, fun q5 => (by first | (exfalso; omega) | exact fin_b hu rfl)⟩, fun q4 => (by first | (exfalso; omega) | exact fin_b hu rfl)⟩⟩⟩

set_option maxRecDepth 8000 in
theorem c43_4_2 {N : Nat} {sc : Nat × (Nat → Int)} {I : IH} {L : LH} {R : RH} {K : KH} {r x : Int} (hI : Inv N I L R K) (hr : 0 ≤ r ∧ r < I 77 7) (hm : I 83 r.toNat = 4) : E sc 44 0 [some (aR (some 0)), some (aI r), some (aI 2), some (aI x)] [] I L R K (fun rv I1 L1 R1 K1 => E sc 163 0 [some (aR (some 77)), some (aI r), some (aI 2), some (aI x)] [] I1 L1 R1 K1 (Fin (N + 1) rv)) := by
  have hL := hI.1
  obtain ⟨b1, b2, b3, b4, -⟩ := iR hI
  obtain ⟨g1, g2⟩ := b4 r.toNat (by omega)
  have k0 := g2.1
  have a1 := g2.2.1
  have a3 := g2.2.2.2.1
  have hk : I (rf R 3 r.toNat) 1 = 4 := by omega
  have hu : Inv (N + 1) (setF (setF (setF (setF (setF (setF (setF (setF (setF (setF (setF (setF (setF (setF (setF (setF (setF (setF (setF (setF (setF (setF (setF (setF (setF (setF (setF (setF (setF (setF (setF I 2 5 0) 13 0 12) 2 5 1) 13 1 20) 2 5 2) 13 2 11) 2 5 3) 13 3 50) 2 5 4) 13 4 10) 2 5 5) 13 5 50) 2 5 6) 13 6 10) 2 5 7) 77 51 0) 77 68 r) 118 0 12) 77 51 1) 118 1 20) 77 51 2) 118 2 11) 77 51 3) 118 3 50) 77 51 4) 118 4 10) 77 51 5) 118 5 50) 77 51 6) 118 6 10) 77 51 7) L R K := by
    refine up_43 hI (ag_s (ag_s (ag_s (ag_s (ag_s (ag_s (ag_s (ag_s (ag_s (ag_s (ag_s (ag_s (ag_s (ag_s (ag_s (ag_s (ag_s (ag_s (ag_s (ag_s (ag_s (ag_s (ag_s (ag_s (ag_s (ag_s (ag_s (ag_s (ag_s (ag_s (ag_s ag_r (by unfold pAct; omega)) (by unfold pAct; omega)) (by unfold pAct; omega)) (by unfold pAct; omega)) (by unfold pAct; omega)) (by unfold pAct; omega)) (by unfold pAct; omega)) (by unfold pAct; omega)) (by unfold pAct; omega)) (by unfold pAct; omega)) (by unfold pAct; omega)) (by unfold pAct; omega)) (by unfold pAct; omega)) (by unfold pAct; omega)) (by unfold pAct; omega)) (by unfold pAct; omega)) (by unfold pAct; omega)) (by unfold pAct; omega)) (by unfold pAct; omega)) (by unfold pAct; omega)) (by unfold pAct; omega)) (by unfold pAct; omega)) (by unfold pAct; omega)) (by unfold pAct; omega)) (by unfold pAct; omega)) (by unfold pAct; omega)) (by unfold pAct; omega)) (by unfold pAct; omega)) (by unfold pAct; omega)) (by unfold pAct; omega)) (by unfold pAct; omega)) rfl (by show (0 : Int) ≤ 7 ∧ (7 : Int) ≤ 100; omega) (fun i h1 h2 => ?_)
    have h2 : (i : Int) < 7 := h2
    have h3 : i = 0 ∨ i = 1 ∨ i = 2 ∨ i = 3 ∨ i = 4 ∨ i = 5 ∨ i = 6 := by omega
    rcases h3 with rfl | rfl | rfl | rfl | rfl | rfl | rfl <;> rfl
  refine pr_44_4_2 hL hk hm k0.1 ?_
  rw [a3.1]
  exact ⟨fun q1 => ⟨(by first | omega | exact k0.2.1 | exact ⟨by omega, g1⟩), ⟨(by first | omega | exact k0.2.1 | exact ⟨by omega, g1⟩), ⟨(by first | omega | exact k0.2.1 | exact ⟨by omega, g1⟩), ⟨(by first | omega | exact k0.2.1 | exact ⟨by omega, g1⟩), ⟨(by first | omega | exact k0.2.1 | exact ⟨by omega, g1⟩), ⟨(by first | omega | exact k0.2.1 | exact ⟨by omega, g1⟩), ⟨(by first | omega | exact k0.2.1 | exact ⟨by omega, g1⟩), ⟨(by first | omega | exact k0.2.1 | exact ⟨by omega, g1⟩), ⟨(by first | omega | exact k0.2.1 | exact ⟨by omega, g1⟩), ⟨(by first | omega | exact k0.2.1 | exact ⟨by omega, g1⟩), ⟨(by first | omega | exact k0.2.1 | exact ⟨by omega, g1⟩), ⟨(by first | omega | exact k0.2.1 | exact ⟨by omega, g1⟩), ⟨(by first | omega | exact k0.2.1 | exact ⟨by omega, g1⟩), ⟨(by first | omega | exact k0.2.1 | exact ⟨by omega, g1⟩), ⟨(by first | omega | exact k0.2.1 | exact ⟨by omega, g1⟩), ⟨fun q2 => ⟨fun q3 => ⟨(by first | omega | exact k0.2.1 | exact ⟨by omega, g1⟩), ⟨(by first | omega | exact k0.2.1 | exact ⟨by omega, g1⟩), ⟨(by first | omega | exact k0.2.1 | exact ⟨by omega, g1⟩), ⟨(by first | omega | exact k0.2.1 | exact ⟨by omega, g1⟩), ⟨(by first | omega | exact k0.2.1 | exact ⟨by omega, g1⟩), ⟨(by first | omega | exact k0.2.1 | exact ⟨by omega, g1⟩), ⟨(by first | omega | exact k0.2.1 | exact ⟨by omega, g1⟩), (by first | (exfalso; omega) | exact fin_b hu rfl)⟩⟩⟩⟩⟩⟩⟩, fun q3 => (by first | (exfalso; omega) | exact fin_b hu rfl)⟩, fun q2 => (by first | (exfalso; omega) | exact fin_b hu rfl)⟩⟩⟩⟩⟩⟩⟩⟩⟩⟩⟩⟩⟩⟩⟩⟩, fun q1 => ⟨(by first | omega | exact k0.2.1 | exact ⟨by omega, g1⟩), ⟨fun q4 => ⟨fun q5 => ⟨(by first | omega | exact k0.2.1 | exact ⟨by omega, g1⟩), ⟨(by first | omega | exact k0.2.1 | exact ⟨by omega, g1⟩), ⟨(by first | omega | exact k0.2.1 | exact ⟨by omega, g1⟩), ⟨(by first | omega | exact k0.2.1 | exact ⟨by omega, g1⟩), ⟨(by first | omega | exact k0.2.1 | exact ⟨by omega, g1⟩), ⟨(by first | omega | exact k0.2.1 | exact ⟨by omega, g1⟩), ⟨(by first | omega | exact k0.2.1 | exact ⟨by omega, g1⟩), (by first | (exfalso; omega) | exact fin_b hu rfl)⟩⟩⟩⟩⟩⟩⟩, fun q5 => (by first | (exfalso; omega) | exact fin_b hu rfl)⟩, fun q4 => (by first | (exfalso; omega) | exact fin_b hu rfl)⟩⟩⟩

set_option maxRecDepth 8000 in
theorem c43_5_0 {N : Nat} {sc : Nat × (Nat → Int)} {I : IH} {L : LH} {R : RH} {K : KH} {r x : Int} (hI : Inv N I L R K) (hr : 0 ≤ r ∧ r < I 77 7) (hm : I 83 r.toNat = 5) : E sc 44 0 [some (aR (some 0)), some (aI r), some (aI 0), some (aI x)] [] I L R K (fun rv I1 L1 R1 K1 => E sc 163 0 [some (aR (some 77)), some (aI r), some (aI 0), some (aI x)] [] I1 L1 R1 K1 (Fin (N + 1) rv)) := by
  have hL := hI.1
  obtain ⟨b1, b2, b3, b4, -⟩ := iR hI
  obtain ⟨g1, g2⟩ := b4 r.toNat (by omega)
  have k0 := g2.1
  have a1 := g2.2.1
  have a3 := g2.2.2.2.1
  have hk : I (rf R 3 r.toNat) 1 = 5 := by omega
  have hu : Inv (N + 1) (setF (setF (setF (setF (setF (setF (setF (setF (setF (setF (setF I 2 5 0) 13 0 50) 2 5 1) 13 1 10) 2 5 2) 77 51 0) 77 68 r) 118 0 50) 77 51 1) 118 1 10) 77 51 2) L R K := by
    refine up_43 hI (ag_s (ag_s (ag_s (ag_s (ag_s (ag_s (ag_s (ag_s (ag_s (ag_s (ag_s ag_r (by unfold pAct; omega)) (by unfold pAct; omega)) (by unfold pAct; omega)) (by unfold pAct; omega)) (by unfold pAct; omega)) (by unfold pAct; omega)) (by unfold pAct; omega)) (by unfold pAct; omega)) (by unfold pAct; omega)) (by unfold pAct; omega)) (by unfold pAct; omega)) rfl (by show (0 : Int) ≤ 2 ∧ (2 : Int) ≤ 100; omega) (fun i h1 h2 => ?_)
    have h2 : (i : Int) < 2 := h2
    have h3 : i = 0 ∨ i = 1 := by omega
    rcases h3 with rfl | rfl <;> rfl
  refine pr_44_5_0 hL hk hm k0.1 ?_
  rw [a3.1]
  exact ⟨fun q1 => ⟨(by first | omega | exact k0.2.1 | exact ⟨by omega, g1⟩), ⟨(by first | omega | exact k0.2.1 | exact ⟨by omega, g1⟩), ⟨(by first | omega | exact k0.2.1 | exact ⟨by omega, g1⟩), ⟨(by first | omega | exact k0.2.1 | exact ⟨by omega, g1⟩), ⟨(by first | omega | exact k0.2.1 | exact ⟨by omega, g1⟩), ⟨(by first | omega | exact k0.2.1 | exact ⟨by omega, g1⟩), ⟨fun q2 => ⟨fun q3 => ⟨(by first | omega | exact k0.2.1 | exact ⟨by omega, g1⟩), ⟨(by first | omega | exact k0.2.1 | exact ⟨by omega, g1⟩), (by first | (exfalso; omega) | exact fin_b hu rfl)⟩⟩, fun q3 => (by first | (exfalso; omega) | exact fin_b hu rfl)⟩, fun q2 => (by first | (exfalso; omega) | exact fin_b hu rfl)⟩⟩⟩⟩⟩⟩⟩, fun q1 => ⟨(by first | omega | exact k0.2.1 | exact ⟨by omega, g1⟩), ⟨fun q4 => ⟨fun q5 => ⟨(by first | omega | exact k0.2.1 | exact ⟨by omega, g1⟩), ⟨(by first | omega | exact k0.2.1 | exact ⟨by omega, g1⟩), (by first | (exfalso; omega) | exact fin_b hu rfl)⟩⟩, fun q5 => (by first | (exfalso; omega) | exact fin_b hu rfl)⟩, fun q4 => (by first | (exfalso; omega) | exact fin_b hu rfl)⟩⟩⟩

set_option maxRecDepth 8000 in
theorem c43_5_1 {N : Nat} {sc : Nat × (Nat → Int)} {I : IH} {L : LH} {R : RH} {K : KH} {r x : Int} (hI : Inv N I L R K) (hr : 0 ≤ r ∧ r < I 77 7) (hm : I 83 r.toNat = 5) : E sc 44 0 [some (aR (some 0)), some (aI r), some (aI 1), some (aI x)] [] I L R K (fun rv I1 L1 R1 K1 => E sc 163 0 [some (aR (some 77)), some (aI r), some (aI 1), some (aI x)] [] I1 L1 R1 K1 (Fin (N + 1) rv)) := by
  have hL := hI.1
  obtain ⟨b1, b2, b3, b4, -⟩ := iR hI
  obtain ⟨g1, g2⟩ := b4 r.toNat (by omega)
  have k0 := g2.1
  have a1 := g2.2.1
  have a3 := g2.2.2.2.1
  have hk : I (rf R 3 r.toNat) 1 = 5 := by omega
  have hu : Inv (N + 1) (setF (setF (setF (setF (setF (setF (setF (setF (setF (setF (setF (setF (setF (setF (setF (setF (setF (setF (setF (setF (setF (setF (setF I 2 5 0) 13 0 61) 2 5 1) 13 1 20) 2 5 2) 13 2 11) 2 5 3) 13 3 50) 2 5 4) 13 4 10) 2 5 5) 77 51 0) 77 68 r) 118 0 61) 77 51 1) 118 1 20) 77 51 2) 118 2 11) 77 51 3) 118 3 50) 77 51 4) 118 4 10) 77 51 5) L R K := by
    refine up_43 hI (ag_s (ag_s (ag_s (ag_s (ag_s (ag_s (ag_s (ag_s (ag_s (ag_s (ag_s (ag_s (ag_s (ag_s (ag_s (ag_s (ag_s (ag_s (ag_s (ag_s (ag_s (ag_s (ag_s ag_r (by unfold pAct; omega)) (by unfold pAct; omega)) (by unfold pAct; omega)) (by unfold pAct; omega)) (by unfold pAct; omega)) (by unfold pAct; omega)) (by unfold pAct; omega)) (by unfold pAct; omega)) (by unfold pAct; omega)) (by unfold pAct; omega)) (by unfold pAct; omega)) (by unfold pAct; omega)) (by unfold pAct; omega)) (by unfold pAct; omega)) (by unfold pAct; omega)) (by unfold pAct; omega)) (by unfold pAct; omega)) (by unfold pAct; omega)) (by unfold pAct; omega)) (by unfold pAct; omega)) (by unfold pAct; omega)) (by unfold pAct; omega)) (by unfold pAct; omega)) rfl (by show (0 : Int) ≤ 5 ∧ (5 : Int) ≤ 100; omega) (fun i h1 h2 => ?_)
    have h2 : (i : Int) < 5 := h2
    have h3 : i = 0 ∨ i = 1 ∨ i = 2 ∨ i = 3 ∨ i = 4 := by omega
    rcases h3 with rfl | rfl | rfl | rfl | rfl <;> rfl
  refine pr_44_5_1 hL hk hm k0.1 ?_
  rw [a3.1]
  exact ⟨fun q1 => ⟨(by first | omega | exact k0.2.1 | exact ⟨by omega, g1⟩), ⟨(by first | omega | exact k0.2.1 | exact ⟨by omega, g1⟩), ⟨(by first | omega | exact k0.2.1 | exact ⟨by omega, g1⟩), ⟨(by first | omega | exact k0.2.1 | exact ⟨by omega, g1⟩), ⟨(by first | omega | exact k0.2.1 | exact ⟨by omega, g1⟩), ⟨(by first | omega | exact k0.2.1 | exact ⟨by omega, g1⟩), ⟨(by first | omega | exact k0.2.1 | exact ⟨by omega, g1⟩), ⟨(by first | omega | exact k0.2.1 | exact ⟨by omega, g1⟩), ⟨(by first | omega | exact k0.2.1 | exact ⟨by omega, g1⟩), ⟨fun q2 => ⟨fun q3 => ⟨(by first | omega | exact k0.2.1 | exact ⟨by omega, g1⟩), ⟨(by first | omega | exact k0.2.1 | exact ⟨by omega, g1⟩), ⟨(by first | omega | exact k0.2.1 | exact ⟨by omega, g1⟩), ⟨(by first | omega | exact k0.2.1 | exact ⟨by omega, g1⟩), (by first | (exfalso; omega) | exact fin_b hu rfl)⟩⟩⟩⟩, fun q3 => (by first | (exfalso; omega) | exact fin_b hu rfl)⟩, fun q2 => (by first | (exfalso; omega) | exact fin_b hu rfl)⟩⟩⟩⟩⟩⟩⟩⟩⟩⟩, fun q1 => ⟨(by first | omega | exact k0.2.1 | exact ⟨by omega, g1⟩), ⟨fun q4 => ⟨fun q5 => ⟨(by first | omega | exact k0.2.1 | exact ⟨by omega, g1⟩), ⟨(by first | omega | exact k0.2.1 | exact ⟨by omega, g1⟩), ⟨(by first | omega | exact k0.2.1 | exact ⟨by omega, g1⟩), ⟨(by first | omega | exact k0.2.1 | exact ⟨by omega, g1⟩), (by first | (exfalso; omega) | exact fin_b hu rfl)⟩⟩⟩⟩, fun q5 => (by first | (exfalso; omega) | exact fin_b hu rfl)⟩, fun q4 => (by first | (exfalso; omega) | exact fin_b hu rfl)⟩⟩⟩

set_option maxRecDepth 8000 in
theorem c43_5_2 {N : Nat} {sc : Nat × (Nat → Int)} {I : IH} {L : LH} {R : RH} {K : KH} {r x : Int} (hI : Inv N I L R K) (hr : 0 ≤ r ∧ r < I 77 7) (hm : I 83 r.toNat = 5) : E sc 44 0 [some (aR (some 0)), some (aI r), some (aI 2), some (aI x)] [] I L R K (fun rv I1 L1 R1 K1 => E sc 163 0 [some (aR (some 77)), some (aI r), some (aI 2), some (aI x)] [] I1 L1 R1 K1 (Fin (N + 1) rv)) := by
  have hL := hI.1
  obtain ⟨b1, b2, b3, b4, -⟩ := iR hI
  obtain ⟨g1, g2⟩ := b4 r.toNat (by omega)
  have k0 := g2.1
  have a1 := g2.2.1
  have a3 := g2.2.2.2.1
  have hk : I (rf R 3 r.toNat) 1 = 5 := by omega
  have hu : Inv (N + 1) (setF (setF (setF (setF (setF (setF (setF (setF (setF (setF (setF (setF (setF (setF (setF (setF (setF (setF (setF (setF (setF (setF (setF (setF (setF (setF (setF (setF (setF (setF (setF (setF (setF (setF (setF (setF (setF (setF (setF I 2 5 0) 13 0 60) 2 5 1) 13 1 12) 2 5 2) 13 2 61) 2 5 3) 13 3 20) 2 5 4) 13 4 11) 2 5 5) 13 5 50) 2 5 6) 13 6 10) 2 5 7) 13 7 50) 2 5 8) 13 8 10) 2 5 9) 77 51 0) 77 68 r) 118 0 60) 77 51 1) 118 1 12) 77 51 2) 118 2 61) 77 51 3) 118 3 20) 77 51 4) 118 4 11) 77 51 5) 118 5 50) 77 51 6) 118 6 10) 77 51 7) 118 7 50) 77 51 8) 118 8 10) 77 51 9) L R K := by
    refine up_43 hI (ag_s (ag_s (ag_s (ag_s (ag_s (ag_s (ag_s (ag_s (ag_s (ag_s (ag_s (ag_s (ag_s (ag_s (ag_s (ag_s (ag_s (ag_s (ag_s (ag_s (ag_s (ag_s (ag_s (ag_s (ag_s (ag_s (ag_s (ag_s (ag_s (ag_s (ag_s (ag_s (ag_s (ag_s (ag_s (ag_s (ag_s (ag_s (ag_s ag_r (by unfold pAct; omega)) (by unfold pAct; omega)) (by unfold pAct; omega)) (by unfold pAct; omega)) (by unfold pAct; omega)) (by unfold pAct; omega)) (by unfold pAct; omega)) (by unfold pAct; omega)) (by unfold pAct; omega)) (by unfold pAct; omega)) (by unfold pAct; omega)) (by unfold pAct; omega)) (by unfold pAct; omega)) (by unfold pAct; omega)) (by unfold pAct; omega)) (by unfold pAct; omega)) (by unfold pAct; omega)) (by unfold pAct; omega)) (by unfold pAct; omega)) (by unfold pAct; omega)) (by unfold pAct; omega)) (by unfold pAct; omega)) (by unfold pAct; omega)) (by unfold pAct; omega)) (by unfold pAct; omega)) (by unfold pAct; omega)) (by unfold pAct; omega)) (by unfold pAct; omega)) (by unfold pAct; omega)) (by unfold pAct; omega)) (by unfold pAct; omega)) (by unfold pAct; omega)) (by unfold pAct; omega)) (by unfold pAct; omega)) (by unfold pAct; omega)) (by unfold pAct; omega)) (by unfold pAct; omega)) (by unfold pAct; omega)) (by unfold pAct; omega)) rfl (by show (0 : Int) ≤ 9 ∧ (9 : Int) ≤ 100; omega) (fun i h1 h2 => ?_)
    have h2 : (i : Int) < 9 := h2
    have h3 : i = 0 ∨ i = 1 ∨ i = 2 ∨ i = 3 ∨ i = 4 ∨ i = 5 ∨ i = 6 ∨ i = 7 ∨ i = 8 := by omega
    rcases h3 with rfl | rfl | rfl | rfl | rfl | rfl | rfl | rfl | rfl <;> rfl
  refine pr_44_5_2 hL hk hm k0.1 ?_
  rw [a3.1]
  exact ⟨fun q1 => ⟨(by first | omega | exact k0.2.1 | exact ⟨by omega, g1⟩), ⟨(by first | omega | exact k0.2.1 | exact ⟨by omega, g1⟩), ⟨(by first | omega | exact k0.2.1 | exact ⟨by omega, g1⟩), ⟨(by first | omega | exact k0.2.1 | exact ⟨by omega, g1⟩), ⟨(by first | omega | exact k0.2.1 | exact ⟨by omega, g1⟩), ⟨(by first | omega | exact k0.2.1 | exact ⟨by omega, g1⟩), ⟨(by first | omega | exact k0.2.1 | exact ⟨by omega, g1⟩), ⟨(by first | omega | exact k0.2.1 | exact ⟨by omega, g1⟩), ⟨(by first | omega | exact k0.2.1 | exact ⟨by omega, g1⟩), ⟨(by first | omega | exact k0.2.1 | exact ⟨by omega, g1⟩), ⟨(by first | omega | exact k0.2.1 | exact ⟨by omega, g1⟩), ⟨(by first | omega | exact k0.2.1 | exact ⟨by omega, g1⟩), ⟨(by first | omega | exact k0.2.1 | exact ⟨by omega, g1⟩), ⟨(by first | omega | exact k0.2.1 | exact ⟨by omega, g1⟩), ⟨(by first | omega | exact k0.2.1 | exact ⟨by omega, g1⟩), ⟨fun q2 => ⟨fun q3 => ⟨(by first | omega | exact k0.2.1 | exact ⟨by omega, g1⟩), ⟨(by first | omega | exact k0.2.1 | exact ⟨by omega, g1⟩), ⟨(by first | omega | exact k0.2.1 | exact ⟨by omega, g1⟩), ⟨(by first | omega | exact k0.2.1 | exact ⟨by omega, g1⟩), ⟨(by first | omega | exact k0.2.1 | exact ⟨by omega, g1⟩), ⟨(by first | omega | exact k0.2.1 | exact ⟨by omega, g1⟩), ⟨(by first | omega | exact k0.2.1 | exact ⟨by omega, g1⟩), (by first | (exfalso; omega) | exact fin_b hu rfl)⟩⟩⟩⟩⟩⟩⟩, fun q3 => (by first | (exfalso; omega) | exact fin_b hu rfl)⟩, fun q2 => (by first | (exfalso; omega) | exact fin_b hu rfl)⟩⟩⟩⟩⟩⟩⟩⟩⟩⟩⟩⟩⟩⟩⟩⟩, fun q1 => ⟨(by first | omega | exact k0.2.1 | exact ⟨by omega, g1⟩), ⟨fun q4 => ⟨fun q5 => ⟨(by first | omega | exact k0.2.1 | exact ⟨by omega, g1⟩), ⟨(by first | omega | exact k0.2.1 | exact ⟨by omega, g1⟩), ⟨(by first | omega | exact k0.2.1 | exact ⟨by omega, g1⟩), ⟨(by first | omega | exact k0.2.1 | exact ⟨by omega, g1⟩), ⟨(by first | omega | exact k0.2.1 | exact ⟨by omega, g1⟩), ⟨(by first | omega | exact k0.2.1 | exact ⟨by omega, g1⟩), ⟨(by first | omega | exact k0.2.1 | exact ⟨by omega, g1⟩), (by first | (exfalso; omega) | exact fin_b hu rfl)⟩⟩⟩⟩⟩⟩⟩, fun q5 => (by first | (exfalso; omega) | exact fin_b hu rfl)⟩, fun q4 => (by first | (exfalso; omega) | exact fin_b hu rfl)⟩⟩⟩

theorem w_44_0 {sc : Nat × (Nat → Int)} {I : IH} {L : LH} {R : RH} {K : KH} {Q : AQ} {r a x : Int} (hL : Lay R K) (h : ((0 ≤ r ∧ r < I 2 4 → ((a < 0 ∨ 2 < a → Q (some (aI 0)) (setF I 2 5 0) L R K) ∧ (a = 0 → ((0 ≤ r ∧ r < 80) ∧ (R 3 r.toNat = some (rf R 3 r.toNat))) ∧ E sc 44 62 [some (aR (some 0)), some (aI r), some (aI a), some (aI x)] [aI x, aI r, aR (some (rf R 3 r.toNat)), aR (some 2)] (setF I 2 5 0) L R K Q) ∧ (a = 1 → ((0 ≤ r ∧ r < 80) ∧ (R 3 r.toNat = some (rf R 3 r.toNat))) ∧ E sc 44 80 [some (aR (some 0)), some (aI r), some (aI a), some (aI x)] [aI x, aI r, aR (some (rf R 3 r.toNat)), aR (some 2)] (setF I 2 5 0) L R K Q) ∧ (a = 2 → ((0 ≤ r ∧ r < 80) ∧ (R 3 r.toNat = some (rf R 3 r.toNat))) ∧ E sc 44 98 [some (aR (some 0)), some (aI r), some (aI a), some (aI x)] [aI x, aI r, aR (some (rf R 3 r.toNat)), aR (some 2)] (setF I 2 5 0) L R K Q))) ∧ (¬(0 ≤ r ∧ r < I 2 4) → Q (some (aI 0)) (setF I 2 5 0) L R K))) : E sc 44 0 [some (aR (some 0)), some (aI r), some (aI a), some (aI x)] [] I L R K Q :=
  e_aload_n mb_44 dX11_act_0 rfl (e_getr mb_44 dX11_act_1 mf_44.1 fs_45072 fk_11_1 (lk_0 hL) (lr_0_1 hL) (e_callV mb_44 dX11_act_4 mf_44 mf_243 cs_45466 rfl rfl rfl rfl (lk_2 hL) rfl (show E _ _ _ [some (aR (some 2))] [] _ _ _ _ _ from e_aload_n mb_243 dX5_clearTrace_0 rfl (e_iconst mb_243 dX5_clearTrace_1 cv_iconst_0 (e_puti mb_243 dX5_clearTrace_2 mf_243.1 fs_20575 fk_5_5 (Or.inl ff_5_5) (lk_2 hL) (e_return mb_243 dX5_clearTrace_5 rv_243 (show E _ _ _ _ [] _ _ _ _ _ from e_aload_n mb_44 dX11_act_7 rfl (e_getr mb_44 dX11_act_8 mf_44.1 fs_45072 fk_11_1 (lk_0 hL) (lr_0_1 hL) (e_iload_n mb_44 dX11_act_11 rfl (e_callV mb_44 dX11_act_12 mf_44 mf_231 cs_45178 rfl rfl rfl rfl (lk_2 hL) rfl (v_231 hL (show E _ _ _ _ (_ :: _) _ _ _ _ _ from e_ifb_ne mb_44 dX11_act_15 rfl ⟨fun q1 => e_iload_n mb_44 dX11_act_20 rfl (e_tsw mb_44 dX11_act_21 (fun q2 => ⟨102, rfl, e_iconst mb_44 dX11_act_102 cv_iconst_0 (e_ireturn mb_44 dX11_act_103 ri_44 ((h.1 q1).1 q2))⟩) (fun qn => by
    have qo : a = 0 ∨ a = 1 ∨ a = 2 := by omega
    rcases qo with q2 | q2 | q2
    · exact ⟨27, 48, by rw [q2]; rfl, rfl, e_aload_n mb_44 dX11_act_48 rfl (e_getr mb_44 dX11_act_49 mf_44.1 fs_45072 fk_11_1 (lk_0 hL) (lr_0_1 hL) (e_aload_n mb_44 dX11_act_52 rfl (e_getr mb_44 dX11_act_53 mf_44.1 fs_45072 fk_11_1 (lk_0 hL) (lr_0_1 hL) (e_iload_n mb_44 dX11_act_56 rfl (e_callV mb_44 dX11_act_57 mf_44 mf_233 cs_45182 rfl rfl rfl rfl (lk_2 hL) rfl (v_233 hL ((h.1 q1).2.1 q2).1.1 ((h.1 q1).2.1 q2).1.2 (show E _ _ _ _ (_ :: _) _ _ _ _ _ from e_iload_n mb_44 dX11_act_60 rfl (e_iload_n mb_44 dX11_act_61 rfl (((h.1 q1).2.1 q2).2)))))))))⟩
    · exact ⟨45, 66, by rw [q2]; rfl, rfl, e_aload_n mb_44 dX11_act_66 rfl (e_getr mb_44 dX11_act_67 mf_44.1 fs_45072 fk_11_1 (lk_0 hL) (lr_0_1 hL) (e_aload_n mb_44 dX11_act_70 rfl (e_getr mb_44 dX11_act_71 mf_44.1 fs_45072 fk_11_1 (lk_0 hL) (lr_0_1 hL) (e_iload_n mb_44 dX11_act_74 rfl (e_callV mb_44 dX11_act_75 mf_44 mf_233 cs_45182 rfl rfl rfl rfl (lk_2 hL) rfl (v_233 hL ((h.1 q1).2.2.1 q2).1.1 ((h.1 q1).2.2.1 q2).1.2 (show E _ _ _ _ (_ :: _) _ _ _ _ _ from e_iload_n mb_44 dX11_act_78 rfl (e_iload_n mb_44 dX11_act_79 rfl (((h.1 q1).2.2.1 q2).2)))))))))⟩
    · exact ⟨63, 84, by rw [q2]; rfl, rfl, e_aload_n mb_44 dX11_act_84 rfl (e_getr mb_44 dX11_act_85 mf_44.1 fs_45072 fk_11_1 (lk_0 hL) (lr_0_1 hL) (e_aload_n mb_44 dX11_act_88 rfl (e_getr mb_44 dX11_act_89 mf_44.1 fs_45072 fk_11_1 (lk_0 hL) (lr_0_1 hL) (e_iload_n mb_44 dX11_act_92 rfl (e_callV mb_44 dX11_act_93 mf_44 mf_233 cs_45182 rfl rfl rfl rfl (lk_2 hL) rfl (v_233 hL ((h.1 q1).2.2.2 q2).1.1 ((h.1 q1).2.2.2 q2).1.2 (show E _ _ _ _ (_ :: _) _ _ _ _ _ from e_iload_n mb_44 dX11_act_96 rfl (e_iload_n mb_44 dX11_act_97 rfl (((h.1 q1).2.2.2 q2).2)))))))))⟩)), fun q1 => e_iconst mb_44 dX11_act_18 cv_iconst_0 (e_ireturn mb_44 dX11_act_19 ri_44 (h.2 q1))⟩))))))))))))
theorem w_44_65 {sc : Nat × (Nat → Int)} {I : IH} {L : LH} {R : RH} {K : KH} {Q : AQ} {s0 : Int} {o0 o1 o2 o3 : Option AV} (no0 : nL o0) (no1 : nL o1) (no2 : nL o2) (no3 : nL o3) (hL : Lay R K) (h : Q (some (aI s0)) I L R K) : E sc 44 65 [o0, o1, o2, o3] [aI s0] I L R K Q :=
  e_ireturn mb_44 dX11_act_65 ri_44 h
theorem w_44_83 {sc : Nat × (Nat → Int)} {I : IH} {L : LH} {R : RH} {K : KH} {Q : AQ} {s0 : Int} {o0 o1 o2 o3 : Option AV} (no0 : nL o0) (no1 : nL o1) (no2 : nL o2) (no3 : nL o3) (hL : Lay R K) (h : Q (some (aI s0)) I L R K) : E sc 44 83 [o0, o1, o2, o3] [aI s0] I L R K Q :=
  e_ireturn mb_44 dX11_act_83 ri_44 h
theorem w_44_101 {sc : Nat × (Nat → Int)} {I : IH} {L : LH} {R : RH} {K : KH} {Q : AQ} {s0 : Int} {o0 o1 o2 o3 : Option AV} (no0 : nL o0) (no1 : nL o1) (no2 : nL o2) (no3 : nL o3) (hL : Lay R K) (h : Q (some (aI s0)) I L R K) : E sc 44 101 [o0, o1, o2, o3] [aI s0] I L R K Q :=
  e_ireturn mb_44 dX11_act_101 ri_44 h
theorem w_163_0 {sc : Nat × (Nat → Int)} {I : IH} {L : LH} {R : RH} {K : KH} {Q : AQ} {r a x : Int} (hL : Lay R K) (h : ((0 ≤ I 77 7 ∧ I 77 7 ≤ 80)) ∧ ((0 ≤ r ∧ r ≤ I 77 7 - 1 → (((0 : Int) ≤ a ∧ a ≤ (2 : Int) → ((a ≠ 0 → ((a ≠ 1 → E sc 163 56 [some (aR (some 77)), some (aI r), some (aI a), some (aI x)] [aI x, aR (some 77)] (setF (setF I 77 51 0) 77 68 r) L R K Q) ∧ (a = 1 → E sc 163 48 [some (aR (some 77)), some (aI r), some (aI a), some (aI x)] [aI x, aR (some 77)] (setF (setF I 77 51 0) 77 68 r) L R K Q))) ∧ (a = 0 → E sc 163 35 [some (aR (some 77)), some (aI r), some (aI a), some (aI x)] [aI x, aR (some 77)] (setF (setF I 77 51 0) 77 68 r) L R K Q))) ∧ (¬((0 : Int) ≤ a ∧ a ≤ (2 : Int)) → Q (some (aI 0)) (setF I 77 51 0) L R K))) ∧ (¬(0 ≤ r ∧ r ≤ I 77 7 - 1) → Q (some (aI 0)) (setF I 77 51 0) L R K))) : E sc 163 0 [some (aR (some 77)), some (aI r), some (aI a), some (aI x)] [] I L R K Q :=
  e_aload_n mb_163 dX12_act_0 rfl (e_iconst mb_163 dX12_act_1 cv_iconst_0 (e_puti mb_163 dX12_act_2 mf_163.1 fs_49520 fk_12_51 (Or.inl ff_12_51) (lk_77 hL) (e_aload_n mb_163 dX12_act_5 rfl (e_iload_n mb_163 dX12_act_6 rfl (e_callV mb_163 dX12_act_7 mf_163 mf_68 cs_49394 rfl rfl rfl rfl (lk_77 hL) rfl (v_68 hL h.1 (show E _ _ _ _ (_ :: _) _ _ _ _ _ from e_ifb_eq mb_163 dX12_act_10 rfl ⟨fun q1 => e_iload_n mb_163 dX12_act_13 rfl (e_iconst mb_163 dX12_act_14 cv_iconst_0 (e_iconst mb_163 dX12_act_15 cv_iconst_2 (e_callS mb_163 dX12_act_16 mf_163 mf_66 cs_49329 rfl rfl rfl rfl (v_66 hL (show E _ _ _ _ (_ :: _) _ _ _ _ _ from e_ifb_ne mb_163 dX12_act_19 rfl ⟨fun q2 => e_aload_n mb_163 dX12_act_24 rfl (e_iload_n mb_163 dX12_act_25 rfl (e_puti mb_163 dX12_act_26 mf_163.1 fs_49526 fk_12_68 (Or.inl ff_12_68) (lk_77 hL) (e_iload_n mb_163 dX12_act_29 rfl (e_if mb_163 dX12_act_30 rfl (fun q3 => e_iload_n mb_163 dX12_act_41 rfl (e_iconst mb_163 dX12_act_42 cv_iconst_1 (e_icmp mb_163 dX12_act_43 rfl (fun q4 => e_aload_n mb_163 dX12_act_54 rfl (e_iload_n mb_163 dX12_act_55 rfl (((((h.2.1 q1).1 q2).1 (cb_ne.1.mp q3)).1 (cb_ne.1.mp q4))))) (fun q4 => e_aload_n mb_163 dX12_act_46 rfl (e_iload_n mb_163 dX12_act_47 rfl (((((h.2.1 q1).1 q2).1 (cb_ne.1.mp q3)).2 (cb_ne.2.mp q4)))))))) (fun q3 => e_aload_n mb_163 dX12_act_33 rfl (e_iload_n mb_163 dX12_act_34 rfl ((((h.2.1 q1).1 q2).2 (cb_ne.2.mp q3))))))))), fun q2 => e_iconst mb_163 dX12_act_22 cv_iconst_0 (e_ireturn mb_163 dX12_act_23 ri_163 ((h.2.1 q1).2 q2))⟩))))), fun q1 => e_iconst mb_163 dX12_act_22 cv_iconst_0 (e_ireturn mb_163 dX12_act_23 ri_163 (h.2.2 q1))⟩)))))))
theorem w_163_38 {sc : Nat × (Nat → Int)} {I : IH} {L : LH} {R : RH} {K : KH} {Q : AQ} {s0 : Int} {o0 o1 o2 o3 : Option AV} (no0 : nL o0) (no1 : nL o1) (no2 : nL o2) (no3 : nL o3) (hL : Lay R K) (h : Q (some (aI s0)) I L R K) : E sc 163 38 [o0, o1, o2, o3] [aI s0] I L R K Q :=
  e_goto mb_163 dX12_act_38 rfl (e_ireturn mb_163 dX12_act_59 ri_163 h)
theorem w_163_51 {sc : Nat × (Nat → Int)} {I : IH} {L : LH} {R : RH} {K : KH} {Q : AQ} {s0 : Int} {o0 o1 o2 o3 : Option AV} (no0 : nL o0) (no1 : nL o1) (no2 : nL o2) (no3 : nL o3) (hL : Lay R K) (h : Q (some (aI s0)) I L R K) : E sc 163 51 [o0, o1, o2, o3] [aI s0] I L R K Q :=
  e_goto mb_163 dX12_act_51 rfl (e_ireturn mb_163 dX12_act_59 ri_163 h)
theorem w_163_59 {sc : Nat × (Nat → Int)} {I : IH} {L : LH} {R : RH} {K : KH} {Q : AQ} {s0 : Int} {o0 o1 o2 o3 : Option AV} (no0 : nL o0) (no1 : nL o1) (no2 : nL o2) (no3 : nL o3) (hL : Lay R K) (h : Q (some (aI s0)) I L R K) : E sc 163 59 [o0, o1, o2, o3] [aI s0] I L R K Q :=
  e_ireturn mb_163 dX12_act_59 ri_163 h
theorem c_43 {N : Nat} {sc : Nat × (Nat → Int)} {I : IH} {L : LH} {R : RH} {K : KH} {r a x : Int} (hI : Inv N I L R K) : E sc 44 0 [some (aR (some 0)), some (aI r), some (aI a), some (aI x)] [] I L R K (fun rv I1 L1 R1 K1 => E sc 163 0 [some (aR (some 77)), some (aI r), some (aI a), some (aI x)] [] I1 L1 R1 K1 (Fin (N + 1) rv)) := by
  have hL := hI.1
  obtain ⟨b1, b2, b3, b4, -⟩ := iR hI
  by_cases hq : (0 ≤ r ∧ r < I 77 7) ∧ 0 ≤ a ∧ a ≤ 2
  · have a1 := (b4 r.toNat (by omega)).2.2.1
    have hm : I 83 r.toNat = 1 ∨ I 83 r.toNat = 2 ∨ I 83 r.toNat = 3 ∨ I 83 r.toNat = 4 ∨ I 83 r.toNat = 5 := by omega
    have ha : a = 0 ∨ a = 1 ∨ a = 2 := by omega
    rcases ha with rfl | rfl | rfl <;> rcases hm with hm | hm | hm | hm | hm
    · exact c43_1_0 hI hq.1 hm
    · exact c43_2_0 hI hq.1 hm
    · exact c43_3_0 hI hq.1 hm
    · exact c43_4_0 hI hq.1 hm
    · exact c43_5_0 hI hq.1 hm
    · exact c43_1_1 hI hq.1 hm
    · exact c43_2_1 hI hq.1 hm
    · exact c43_3_1 hI hq.1 hm
    · exact c43_4_1 hI hq.1 hm
    · exact c43_5_1 hI hq.1 hm
    · exact c43_1_2 hI hq.1 hm
    · exact c43_2_2 hI hq.1 hm
    · exact c43_3_2 hI hq.1 hm
    · exact c43_4_2 hI hq.1 hm
    · exact c43_5_2 hI hq.1 hm
  · have hu : Inv (N + 1) (setF (setF I 2 5 0) 77 51 0) L R K := up_43 hI (ag_s (ag_s ag_r (by unfold pAct; omega)) (by unfold pAct; omega)) rfl (by show (0 : Int) ≤ 0 ∧ (0 : Int) ≤ 100; omega) (fun i h1 h2 => by have h2 : (i : Int) < 0 := h2; omega)
    have nx : E sc 163 0 [some (aR (some 77)), some (aI r), some (aI a), some (aI x)] [] (setF I 2 5 0) L R K (Fin (N + 1) (some (aI 0))) := by
      refine w_163_0 hL ?_
      simp only [setF_c (show (77 : Nat) ≠ 2 by decide)]
      exact ⟨(by first | omega | exact ⟨by omega, by omega⟩), ⟨fun q1 => ⟨fun q2 => ⟨fun q3 => ⟨fun q4 => (by omega), fun q4 => (by omega)⟩, fun q3 => (by omega)⟩, fun q2 => (by first | (exfalso; omega) | exact fin_b hu rfl)⟩, fun q1 => (by first | (exfalso; omega) | exact fin_b hu rfl)⟩⟩
    exact w_44_0 hL ⟨fun q1 => ⟨fun q2 => (by first | (exfalso; omega) | exact nx), fun q2 => ⟨(by first | omega | exact ⟨by omega, (b4 r.toNat (by omega)).1⟩ | exact (b4 r.toNat (by omega)).2.1.2.1), (by omega)⟩, fun q2 => ⟨(by first | omega | exact ⟨by omega, (b4 r.toNat (by omega)).1⟩ | exact (b4 r.toNat (by omega)).2.1.2.1), (by omega)⟩, fun q2 => ⟨(by first | omega | exact ⟨by omega, (b4 r.toNat (by omega)).1⟩ | exact (b4 r.toNat (by omega)).2.1.2.1), (by omega)⟩⟩, fun q1 => (by first | (exfalso; omega) | exact nx)⟩
