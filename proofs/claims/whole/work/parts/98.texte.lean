/-! texts: the invariant when a rule is added -/
def Nr (d T a j : Nat) : Prop := Sc d a j ∨ (a = 0 ∧ j = 11) ∨ (a = 77 ∧ (j = 2 ∨ j = 7)) ∨ (a = 2 ∧ j = 4) ∨ (79 ≤ a ∧ a ≤ 81 ∧ j = T) ∨ (a = 82 ∧ 5 * T ≤ j ∧ j < 5 * T + 5) ∨ (83 ≤ a ∧ a ≤ 90 ∧ j = T) ∨ (d + 3 < a ∧ 131 ≤ a)
def OldJ (d T : Nat) (I I1 : IH) : Prop := ∀ a j, ¬ Nr d T a j → I1 a j = I a j
def OldS (d : Nat) (R R1 : RH) : Prop := ∀ x j, ((71 ≤ x ∧ x ≤ 76) ∨ 131 ≤ x) → x < d → R1 x j = R x j
theorem text_oldj {I I1 : IH} {L L1 : LH} {R R1 : RH} {K K1 : KH} {d T x t : Nat} (hd0 : d = 71 ∨ 131 ≤ d) (h : TextEq I L R K x t) (hx : x + 6 ≤ d) (ht : t < 95) (hT : t ≠ T) (hi : OldJ d T I I1) (hr : OldS d R R1) (hk : OldK d K K1) (hl : OldL d L L1) : TextEq I1 L1 R1 K1 x t := by
  have g := h.1
  obtain ⟨g1, g2, g3, g4, g5, g6, g7⟩ := g
  refine h.fr ⟨g1, by rw [(hk x (by omega)).1]; exact g2, by rw [hr x 4 (by omega) (by omega)]; exact g3, by rw [(hk (x + 4) (by omega)).1]; exact g4, by rw [hr (x + 4) 0 (by omega) (by omega)]; exact g5, by rw [(hk (x + 5) (by omega)).1]; exact g6, by rw [(hk (x + 5) (by omega)).2]; exact g7⟩ (hi _ _ ?_) (hi _ _ ?_) (hi _ _ ?_) (hi _ _ ?_) (hi _ _ ?_) (fun k hk => hi _ _ ?_) (hl x g1 hx)
  all_goals (unfold Nr Sc; omega)
theorem invW_r {I I1 : IH} {L L1 : LH} {R R1 : RH} {K K1 : KH} {T : Nat} (hd0 : rf R 0 10 = 71 ∨ 131 ≤ rf R 0 10) (hI : InvW I L R K) (hT : T < 80) (hi : OldJ (rf R 0 10) T I I1) (hr : OldS (rf R 0 10) R R1) (hk : OldK (rf R 0 10) K K1) (hl : OldL (rf R 0 10) L L1) (hd : rf R 0 10 ≤ rf R1 0 10) (h37 : ∀ j, R1 37 j = R 37 j) : InvW I1 L1 R1 K1 := by
  obtain ⟨h1, h2⟩ := hI
  have e1 : ∀ l, I1 111 l = I 111 l := fun l => hi _ _ (by unfold Nr Sc; omega)
  have e2 : ∀ l, I1 39 l = I 39 l := fun l => hi _ _ (by unfold Nr Sc; omega)
  have e3 : ∀ l, I1 38 l = I 38 l := fun l => hi _ _ (by unfold Nr Sc; omega)
  have e4 : ∀ l, I1 112 l = I 112 l := fun l => hi _ _ (by unfold Nr Sc; omega)
  have e7 : ∀ l, rf R1 37 l = rf R 37 l := fun l => rf_c (h37 l)
  unfold InvW
  simp only [e1, e2, e3, e4, e7, h37]
  refine ⟨h1, fun l w hl5 hw => ?_⟩
  obtain ⟨g1, g5, g3, g4⟩ := h2 l w hl5 hw
  have g6 := (h1 l hl5).2.2
  exact ⟨g1, text_oldj hd0 g5 g4 (by omega) (by omega) hi hr hk hl, g3, by omega⟩
theorem invR_r {I I1 : IH} {L L1 : LH} {R R1 : RH} {K K1 : KH} {n t : Nat} (hd0 : rf R 0 10 = 71 ∨ 131 ≤ rf R 0 10) (hI : InvR I L R K) (hn : I 77 7 = (n : Int)) (hn8 : n < 80) (hi : OldJ (rf R 0 10) n I I1) (hr : OldS (rf R 0 10) R R1) (hk : OldK (rf R 0 10) K K1) (hl : OldL (rf R 0 10) L L1) (e7 : I1 77 7 = (n : Int) + 1) (e2 : I1 2 4 = (n : Int) + 1) (h3 : ∀ j, R1 3 j = if j = n then some t else R 3 j) (ht : rf R 0 10 ≤ t) (hd : t + 2 ≤ rf R1 0 10) (hx : rf R1 t 0 + 6 ≤ rf R1 0 10) (hnew : RuleEq I1 L1 R1 K1 t n) : InvR I1 L1 R1 K1 := by
  obtain ⟨h1, h2, h3o, h4, h5, h6, h7⟩ := hI
  have o3 : ∀ r, r ≠ n → R1 3 r = R 3 r := fun r q => by rw [h3, if_neg q]
  have f3 : ∀ r, r ≠ n → rf R1 3 r = rf R 3 r := fun r q => rf_c (o3 r q)
  have n3 : R1 3 n = some t := by rw [h3, if_pos rfl]
  have r3 : rf R1 3 n = t := rf_eq n3
  rw [hn] at h4 h5 h6 h7
  unfold InvR
  rw [e7, e2]
  refine ⟨rfl, by omega, by omega, fun r q => ?_, fun r s q1 q2 e => ?_, fun r q => ?_, fun r h8 h9 => ?_⟩
  · by_cases q0 : r = n
    · subst q0
      rw [r3]
      exact ⟨n3, hnew⟩
    · obtain ⟨g1, g2⟩ := h4 r (by omega)
      have g3 := h6 r (by omega)
      have g4 := g2.1
      rw [o3 r q0, f3 r q0]
      have ex : rf R1 (rf R 3 r) 0 = rf R (rf R 3 r) 0 := rf_c (hr _ _ (.inr g4.1) (by omega))
      have g5 := g2.2.2.2.2.2.2.2.2.2.2.2
      refine ⟨g1, g2.fr ⟨g4.1, by rw [(hk _ (by omega)).1]; exact g4.2.1, by rw [hr _ _ (.inr g4.1) (by omega)]; exact g4.2.2.1, by rw [(hk _ (by omega)).1]; exact g4.2.2.2.1, by rw [(hk _ (by omega)).2]; exact g4.2.2.2.2.1, by rw [hr _ _ (.inr g4.1) (by omega), ex]; exact g4.2.2.2.2.2⟩ ex (fun j => hi _ _ ?_) (fun j => hi _ _ ?_) (fun a ha hb => hi _ _ ?_) (fun i hi2 => hi _ _ ?_) (text_oldj hd0 g5 g3.1 (by omega) q0 hi hr hk hl)⟩
      all_goals (unfold Nr Sc; omega)
  · by_cases z1 : r = n
    · by_cases z2 : s = n
      · rw [z1, z2]
      · rw [z1, r3, f3 s z2] at e
        have := h6 s (by omega)
        omega
    · by_cases z2 : s = n
      · rw [z2, r3, f3 r z1] at e
        have := h6 r (by omega)
        omega
      · rw [f3 r z1, f3 s z2] at e
        exact h5 r s (by omega) (by omega) e
  · by_cases q0 : r = n
    · subst q0
      rw [r3]
      exact ⟨hx, hd⟩
    · have g4 := (h4 r (by omega)).2.1
      have g3 := h6 r (by omega)
      have ex : rf R1 (rf R 3 r) 0 = rf R (rf R 3 r) 0 := rf_c (hr _ _ (.inr g4.1) (by omega))
      rw [f3 r q0, ex]
      omega
  · rw [hi _ _ (by unfold Nr Sc; omega)]; exact h7 r h8 (by omega)
theorem inv_rul {N n t : Nat} {I I1 : IH} {L L1 : LH} {R R1 : RH} {K K1 : KH} (hI : Inv N I L R K) (hL : Lay R1 K1) (hD : R1 0 10 = some (rf R1 0 10) ∧ DraftAt R1 K1 (rf R1 0 10)) (hn : I 77 7 = (n : Int)) (hn8 : n < 80) (hi : OldJ (rf R 0 10) n I I1) (h0 : I1 0 11 = 0 ∧ I1 77 2 = 0) (hr : OldS (rf R 0 10) R R1) (hk : OldK (rf R 0 10) K K1) (hl : OldL (rf R 0 10) L L1) (h37 : ∀ j, R1 37 j = R 37 j) (hR : InvR I1 L1 R1 K1) (hd : rf R 0 10 ≤ rf R1 0 10) (k1 : K1.2.2.1 ≤ K.2.2.1 + 8) (k2 : K1.2.2.2 ≤ K.2.2.2 + 100) : Inv (N + 1) I1 L1 R1 K1 := by
  obtain ⟨h1, h2, h3, h4, h5, h6, h7, h8, h9, h10, h11, h12, h13, h14, h15⟩ := hI
  have hd0 : rf R 0 10 = 71 ∨ 131 ≤ rf R 0 10 := h2.2.2.2.2.2.2.2.2.2.2.2.2.2.2.2.2.2.2.2
  refine ⟨hL, hD, ?_, invD_a h4 fun a j q => hi a j ?_, invE_a h5 fun a j q => hi a j ?_, invC_a h6 fun a j q => hi a j ?_, invP_a h7 fun a j q => hi a j ?_, invT_a h8 fun a j q => hi a j ?_, invL_a h9 fun a j q => hi a j ?_, invA_a h10 fun a j q => hi a j ?_, invX_a h11 fun a j q => hi a j ?_, hR, invW_r hd0 h13 hn8 hi hr hk hl hd h37, by omega, by omega⟩
  · unfold InvS at h3 ⊢
    rw [h0.1, h0.2, hi 0 12 (by unfold Nr Sc; omega), hi 77 0 (by unfold Nr Sc; omega), hi 0 13 (by unfold Nr Sc; omega), hi 77 22 (by unfold Nr Sc; omega), hi 77 57 (by unfold Nr Sc; omega)]
    obtain ⟨a1, a2, a3, a4, a5, a6, a7, a8, a9, a10, a11⟩ := h3
    exact ⟨a1, a2, a3, rfl, by omega, by omega, a7, a8, a9, a10, fun j hj => by rw [hi 1 j (by unfold Nr Sc; omega), hi 78 j (by unfold Nr Sc; omega)]; exact a11 j hj⟩
  · unfold pD at q; unfold Nr Sc; omega
  · unfold pE at q; unfold Nr Sc; omega
  · unfold pC at q; unfold Nr Sc; omega
  · unfold pP at q; unfold Nr Sc; omega
  · unfold pT at q; unfold Nr Sc; omega
  · unfold pL at q; unfold Nr Sc; omega
  · unfold pA at q; unfold Nr Sc; omega
  · unfold pX at q; unfold Nr Sc; omega
