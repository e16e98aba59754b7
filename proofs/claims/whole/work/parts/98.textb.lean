/-! texts: the invariant when a text is added -/
def OldR (d : Nat) (R R1 : RH) : Prop := (∀ x j, ((71 ≤ x ∧ x ≤ 76) ∨ 131 ≤ x) → x < d → R1 x j = R x j) ∧ ∀ j, R1 3 j = R 3 j
def OldK (d : Nat) (K K1 : KH) : Prop := ∀ x, x < d → K1.1 x = K.1 x ∧ K1.2.1 x = K.2.1 x
def Nw (d T a j : Nat) : Prop := Sc d a j ∨ (a = 0 ∧ j = 11) ∨ (a = 77 ∧ j = 2) ∨ (a = 38 ∨ a = 39 ∨ a = 111 ∨ a = 112) ∨ (79 ≤ a ∧ a ≤ 81 ∧ j = T) ∨ (a = 82 ∧ 5 * T ≤ j ∧ j < 5 * T + 5) ∨ (d + 3 < a ∧ 131 ≤ a)
def OldI (d T : Nat) (I I1 : IH) : Prop := ∀ a j, ¬ Nw d T a j → I1 a j = I a j
def OldL (d : Nat) (L L1 : LH) : Prop := ∀ x, (x = 71 ∨ 131 ≤ x) → x + 6 ≤ d → ∀ j, L1 (x + 5) j = L (x + 5) j
theorem rf_c {R R1 : RH} {a j : Nat} (h : R1 a j = R a j) : rf R1 a j = rf R a j := by unfold rf; rw [h]
theorem text_old {I I1 : IH} {L L1 : LH} {R R1 : RH} {K K1 : KH} {d T x t : Nat} (hd0 : d = 71 ∨ 131 ≤ d) (h : TextEq I L R K x t) (hx : x + 6 ≤ d) (ht : t < 95) (hT : t ≠ T) (hi : OldI d T I I1) (hr : OldR d R R1) (hk : OldK d K K1) (hl : OldL d L L1) : TextEq I1 L1 R1 K1 x t := by
  have g := h.1
  obtain ⟨g1, g2, g3, g4, g5, g6, g7⟩ := g
  refine h.fr ⟨g1, by rw [(hk x (by omega)).1]; exact g2, by rw [hr.1 x 4 (by omega) (by omega)]; exact g3, by rw [(hk (x + 4) (by omega)).1]; exact g4, ?_, by rw [(hk (x + 5) (by omega)).1]; exact g6, by rw [(hk (x + 5) (by omega)).2]; exact g7⟩ (hi _ _ ?_) (hi _ _ ?_) (hi _ _ ?_) (hi _ _ ?_) (hi _ _ ?_) (fun k hk => hi _ _ ?_) (hl x g1 hx)
  · rw [hr.1 (x + 4) 0 (by omega) (by omega)]; exact g5
  all_goals (unfold Nw Sc; omega)
theorem invR_w {I I1 : IH} {L L1 : LH} {R R1 : RH} {K K1 : KH} {T : Nat} (hd0 : rf R 0 10 = 71 ∨ 131 ≤ rf R 0 10) (hI : InvR I L R K) (hi : OldI (rf R 0 10) T I I1) (hT : 80 ≤ T) (hr : OldR (rf R 0 10) R R1) (hk : OldK (rf R 0 10) K K1) (hl : OldL (rf R 0 10) L L1) (hd : rf R 0 10 ≤ rf R1 0 10) : InvR I1 L1 R1 K1 := by
  obtain ⟨h1, h2, h3, h4, h5, h6, h7⟩ := hI
  have e7 : I1 77 7 = I 77 7 := hi _ _ (by unfold Nw Sc; omega)
  have e2 : I1 2 4 = I 2 4 := hi _ _ (by unfold Nw Sc; omega)
  have e3 : ∀ r, rf R1 3 r = rf R 3 r := fun r => rf_c (hr.2 r)
  unfold InvR
  simp only [e7, e2, e3, hr.2]
  refine ⟨h1, h2, h3, fun r q => ?_, h5, fun r q => ?_, fun r h8 h9 => ?_⟩
  · obtain ⟨g1, g2⟩ := h4 r q
    have g3 := h6 r q
    have g4 := g2.1
    have ex : rf R1 (rf R 3 r) 0 = rf R (rf R 3 r) 0 := rf_c (hr.1 _ _ (.inr g4.1) (by omega))
    have g5 := g2.2.2.2.2.2.2.2.2.2.2.2
    refine ⟨g1, g2.fr ⟨g4.1, by rw [(hk _ (by omega)).1]; exact g4.2.1, by rw [hr.1 _ _ (.inr g4.1) (by omega)]; exact g4.2.2.1, by rw [(hk _ (by omega)).1]; exact g4.2.2.2.1, by rw [(hk _ (by omega)).2]; exact g4.2.2.2.2.1, by rw [hr.1 _ _ (.inr g4.1) (by omega), ex]; exact g4.2.2.2.2.2⟩ ex (fun j => hi _ _ ?_) (fun j => hi _ _ ?_) (fun a ha hb => hi _ _ ?_) (fun i hi2 => hi _ _ ?_) (text_old hd0 g5 g3.1 (by omega) (by omega) hi hr hk hl)⟩
    all_goals (unfold Nw Sc; omega)
  · have g4 := (h4 r q).2.1
    have g3 := h6 r q
    have ex : rf R1 (rf R 3 r) 0 = rf R (rf R 3 r) 0 := rf_c (hr.1 _ _ (.inr g4.1) (by omega))
    rw [ex]
    omega
  · rw [hi _ _ (by unfold Nw Sc; omega)]; exact h7 r h8 h9
theorem invW_w {I I1 : IH} {L L1 : LH} {R R1 : RH} {K K1 : KH} {s c : Nat} (hd0 : rf R 0 10 = 71 ∨ 131 ≤ rf R 0 10) (hI : InvW I L R K) (hs : s < 5) (hc : I 111 s = (c : Int)) (hc3 : c < 3) (hi : OldI (rf R 0 10) (80 + 3 * s + c) I I1) (hr : OldR (rf R 0 10) R R1) (hk : OldK (rf R 0 10) K K1) (hl : OldL (rf R 0 10) L L1) (hd : rf R 0 10 ≤ rf R1 0 10) (h37 : ∀ j, j ≠ 3 * s + c → R1 37 j = R 37 j) (h38 : ∀ j, j ≠ 3 * s + c → I1 38 j = I 38 j ∧ I1 112 j = I 112 j) (h39 : ∀ l, l ≠ s → I1 39 l = I 39 l ∧ I1 111 l = I 111 l) (hn : I1 39 s = I1 111 s ∧ (I1 111 s = I 111 s ∨ (I1 111 s = I 111 s + 1 ∧ R1 37 (3 * s + c) = some (rf R1 37 (3 * s + c)) ∧ TextEq I1 L1 R1 K1 (rf R1 37 (3 * s + c)) (80 + 3 * s + c) ∧ (I1 38 (3 * s + c) = I1 112 (3 * s + c) ∧ 0 ≤ I1 112 (3 * s + c) ∧ I1 112 (3 * s + c) ≤ 9) ∧ rf R1 37 (3 * s + c) + 6 ≤ rf R1 0 10))) : InvW I1 L1 R1 K1 := by
  obtain ⟨h1, h2⟩ := hI
  refine ⟨fun l hl5 => ?_, fun l w hl5 hw => ?_⟩
  · have := h1 l hl5
    by_cases q : l = s
    · subst q
      refine ⟨hn.1, ?_⟩
      rcases hn.2 with e | ⟨e, -⟩ <;> rw [e] <;> omega
    · rw [(h39 l q).1, (h39 l q).2]; exact this
  · by_cases q : l = s ∧ w = c
    · obtain ⟨q1, q2⟩ := q
      subst q1
      subst q2
      rcases hn.2 with e | ⟨e, g1, g2, g3, g4⟩
      · rw [e, hc] at hw; omega
      · exact ⟨g1, g2, g3, g4⟩
    · have hw2 : (w : Int) < I 111 l := by
        by_cases q1 : l = s
        · subst q1
          rcases hn.2 with e | ⟨e, -⟩
          · rw [e] at hw; exact hw
          · rw [e, hc] at hw; rw [hc]; omega
        · rw [← (h39 l q1).2]; exact hw
      obtain ⟨g1, g5, g3, g4⟩ := h2 l w hl5 hw2
      have b3 := (h1 l hl5).2.2
      have hne : 3 * l + w ≠ 3 * s + c := by omega
      have e7 : rf R1 37 (3 * l + w) = rf R 37 (3 * l + w) := rf_c (h37 _ hne)
      rw [e7, h37 _ hne, (h38 _ hne).1, (h38 _ hne).2]
      exact ⟨g1, text_old hd0 g5 g4 (by omega) (by omega) hi hr hk hl, g3, by omega⟩
theorem inv_way {N T : Nat} {I I1 : IH} {L L1 : LH} {R R1 : RH} {K K1 : KH} (hI : Inv N I L R K) (hL : Lay R1 K1) (hD : R1 0 10 = some (rf R1 0 10) ∧ DraftAt R1 K1 (rf R1 0 10)) (hi : OldI (rf R 0 10) T I I1) (hT : 80 ≤ T) (h0 : I1 0 11 = 0 ∧ I1 77 2 = 0) (hr : OldR (rf R 0 10) R R1) (hk : OldK (rf R 0 10) K K1) (hl : OldL (rf R 0 10) L L1) (hd : rf R 0 10 ≤ rf R1 0 10) (hW : InvW I1 L1 R1 K1) (k1 : K1.2.2.1 ≤ K.2.2.1 + 8) (k2 : K1.2.2.2 ≤ K.2.2.2 + 100) : Inv (N + 1) I1 L1 R1 K1 := by
  obtain ⟨h1, h2, h3, h4, h5, h6, h7, h8, h9, h10, h11, h12, h13, h14, h15⟩ := hI
  have hd0 : rf R 0 10 = 71 ∨ 131 ≤ rf R 0 10 := h2.2.2.2.2.2.2.2.2.2.2.2.2.2.2.2.2.2.2.2
  refine ⟨hL, hD, ?_, invD_a h4 fun a j q => hi a j ?_, invE_a h5 fun a j q => hi a j ?_, invC_a h6 fun a j q => hi a j ?_, invP_a h7 fun a j q => hi a j ?_, invT_a h8 fun a j q => hi a j ?_, invL_a h9 fun a j q => hi a j ?_, invA_a h10 fun a j q => hi a j ?_, invX_a h11 fun a j q => hi a j ?_, invR_w hd0 h12 hi hT hr hk hl hd, hW, by omega, by omega⟩
  · unfold InvS at h3 ⊢
    rw [h0.1, h0.2, hi 0 12 (by unfold Nw Sc; omega), hi 77 0 (by unfold Nw Sc; omega), hi 0 13 (by unfold Nw Sc; omega), hi 77 22 (by unfold Nw Sc; omega), hi 77 57 (by unfold Nw Sc; omega)]
    obtain ⟨a1, a2, a3, a4, a5, a6, a7, a8, a9, a10, a11⟩ := h3
    exact ⟨a1, a2, a3, rfl, by omega, by omega, a7, a8, a9, a10, fun j hj => by rw [hi 1 j (by unfold Nw Sc; omega), hi 78 j (by unfold Nw Sc; omega)]; exact a11 j hj⟩
  · unfold pD at q; unfold Nw Sc; omega
  · unfold pE at q; unfold Nw Sc; omega
  · unfold pC at q; unfold Nw Sc; omega
  · unfold pP at q; unfold Nw Sc; omega
  · unfold pT at q; unfold Nw Sc; omega
  · unfold pL at q; unfold Nw Sc; omega
  · unfold pA at q; unfold Nw Sc; omega
  · unfold pX at q; unfold Nw Sc; omega
