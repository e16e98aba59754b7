/-! the call rule: what is kept -/
def clH (J1 : IH) (t n : Nat) (kd bo ra fr nw wi : Int) : IH := setF (setF (setF (setF (setF (setF (setF (setF (setF J1 0 11 0) t 9 (-1)) t 1 kd) t 2 bo) t 3 ra) t 4 fr) t 5 nw) t 6 wi) 2 4 ((n : Int) + 1)
def rfH (J : IH) (n : Nat) (kd bo ra fr nw wi : Int) : IH := setF (setF (setF (setF (setF (setF (setF (setF (setF J 77 2 0) 83 n kd) 84 n bo) 85 n ra) 86 n fr) 87 n nw) 88 n (-1)) 90 n wi) 77 7 ((n : Int) + 1)
theorem clH_o {J1 : IH} {t n : Nat} {kd bo ra fr nw wi : Int} {a j : Nat} (h : ¬ (a = 0 ∧ j = 11)) (h2 : a ≠ t) (h3 : ¬ (a = 2 ∧ j = 4)) : clH J1 t n kd bo ra fr nw wi a j = J1 a j := by
  unfold clH
  rw [setF_n h3, setF_n (fun g => h2 g.1), setF_n (fun g => h2 g.1), setF_n (fun g => h2 g.1), setF_n (fun g => h2 g.1), setF_n (fun g => h2 g.1), setF_n (fun g => h2 g.1), setF_n (fun g => h2 g.1), setF_n h]
theorem clH_t {J1 : IH} {t n : Nat} {kd bo ra fr nw wi : Int} (h : 131 ≤ t) : clH J1 t n kd bo ra fr nw wi t 1 = kd ∧ clH J1 t n kd bo ra fr nw wi t 2 = bo ∧ clH J1 t n kd bo ra fr nw wi t 3 = ra ∧ clH J1 t n kd bo ra fr nw wi t 4 = fr ∧ clH J1 t n kd bo ra fr nw wi t 5 = nw ∧ clH J1 t n kd bo ra fr nw wi t 6 = wi ∧ clH J1 t n kd bo ra fr nw wi t 8 = J1 t 8 ∧ clH J1 t n kd bo ra fr nw wi t 9 = -1 ∧ clH J1 t n kd bo ra fr nw wi 2 4 = (n : Int) + 1 ∧ clH J1 t n kd bo ra fr nw wi 0 11 = 0 := by
  have h0 : t ≠ 0 := by omega
  have h2 : t ≠ 2 := by omega
  have h0' : ¬ (0 = t) := by omega
  unfold clH setF
  refine ⟨?_, ?_, ?_, ?_, ?_, ?_, ?_, ?_, ?_, ?_⟩ <;> simp [h0, h2, h0']
theorem rfH_o {J : IH} {n : Nat} {kd bo ra fr nw wi : Int} {a j : Nat} (h : ¬ (a = 77 ∧ (j = 2 ∨ j = 7))) (h2 : ¬ (83 ≤ a ∧ a ≤ 90 ∧ j = n ∧ a ≠ 89)) : rfH J n kd bo ra fr nw wi a j = J a j := by
  unfold rfH
  rw [setF_n (by omega), setF_n (by omega), setF_n (by omega), setF_n (by omega), setF_n (by omega), setF_n (by omega), setF_n (by omega), setF_n (by omega), setF_n (by omega)]
theorem rfH_v {J : IH} {n : Nat} {kd bo ra fr nw wi : Int} : rfH J n kd bo ra fr nw wi 83 n = kd ∧ rfH J n kd bo ra fr nw wi 84 n = bo ∧ rfH J n kd bo ra fr nw wi 85 n = ra ∧ rfH J n kd bo ra fr nw wi 86 n = fr ∧ rfH J n kd bo ra fr nw wi 87 n = nw ∧ rfH J n kd bo ra fr nw wi 88 n = -1 ∧ rfH J n kd bo ra fr nw wi 90 n = wi ∧ rfH J n kd bo ra fr nw wi 77 7 = (n : Int) + 1 ∧ rfH J n kd bo ra fr nw wi 77 2 = 0 := by
  unfold rfH setF
  refine ⟨?_, ?_, ?_, ?_, ?_, ?_, ?_, ?_, ?_⟩ <;> simp
theorem rul_cell {d n t : Nat} {kd bo ra fr nw wi : Int} {I J1 J : IH} (hx : d = 71 ∨ 131 ≤ d) (ht : d + 6 ≤ t) (h131 : 131 ≤ t) (J1o : ∀ a j, ¬ (d ≤ a ∧ a ≤ d + 3) → J1 a j = I a j) (fz : FrZ n (clH J1 t n kd bo ra fr nw wi) J) : ∀ a j, ¬ Nr d n a j → rfH J n kd bo ra fr nw wi a j = I a j := by
  intro a j q
  have q1 : ¬ (a = 77 ∧ (j = 2 ∨ j = 7)) := fun g => q (.inr (.inr (.inl g)))
  have q2 : ¬ (83 ≤ a ∧ a ≤ 90 ∧ j = n ∧ a ≠ 89) := fun g => q (.inr (.inr (.inr (.inr (.inr (.inr (.inl ⟨g.1, g.2.1, g.2.2.1⟩)))))))
  have q3 : ¬ (a = 77 ∧ (j = 55 ∨ j = 56)) := fun g => q (.inl (by unfold Sc; omega))
  have q4 : ¬ (a = 82 ∧ 5 * n ≤ j ∧ j < 5 * n + 5) := fun g => q (.inr (.inr (.inr (.inr (.inr (.inl g))))))
  have q5 : ¬ ((a = 79 ∨ a = 80 ∨ a = 81) ∧ j = n) := fun g => q (.inr (.inr (.inr (.inr (.inl ⟨by omega, by omega, g.2⟩)))))
  have q6 : ¬ (a = 0 ∧ j = 11) := fun g => q (.inr (.inl g))
  have q7 : a ≠ t := fun g => q (.inr (.inr (.inr (.inr (.inr (.inr (.inr ⟨by omega, by omega⟩)))))))
  have q8 : ¬ (a = 2 ∧ j = 4) := fun g => q (.inr (.inr (.inr (.inl g))))
  have q9 : ¬ (d ≤ a ∧ a ≤ d + 3) := fun g => q (.inl (by unfold Sc; omega))
  rw [rfH_o q1 q2, fz a j q3 q4 q5, clH_o q6 q7 q8]
  exact J1o a j q9
theorem rul_inv {N n d t : Nat} {kd bo ra fr nw wi : Int} {I J1 J : IH} {L L2 : LH} {R R2 : RH} {K K2 : KH} (hI : Inv N I L R K) (hd : rf R 0 10 = d) (hn : I 77 7 = (n : Int)) (hn8 : n < 80) (htK : t = K.2.2.1) (f8 : I t 8 = 0) (r1 : 1 ≤ kd ∧ kd ≤ 5) (r2 : 0 ≤ bo ∧ bo ≤ 5 ∧ (4 ≤ kd ↔ bo = 5)) (r3 : 0 ≤ ra ∧ ra ≤ 9) (r4 : 0 ≤ fr ∧ fr ≤ 3999) (r5 : 0 ≤ nw ∧ nw ≤ 3999) (r6 : 0 ≤ wi ∧ wi ≤ 20 ∧ (kd ≠ 2 → wi = 0)) (J1o : ∀ a j, ¬ (d ≤ a ∧ a ≤ d + 3) → J1 a j = I a j) (fz : FrZ n (clH J1 t n kd bo ra fr nw wi) J) (tn : TextEq J L2 R2 K2 d n) (hL2 : Lay R2 K2) (R2d : R2 0 10 = some (t + 2)) (hD2 : DraftAt R2 K2 (t + 2)) (hr : OldS d R R2) (hk : OldK d K K2) (hl2 : OldL d L L2) (h3 : ∀ j, R2 3 j = if j = n then some t else R 3 j) (h37 : ∀ j, R2 37 j = R 37 j) (ho : K2.1 t = 4 ∧ R2 t 7 = some (t + 1) ∧ K2.1 (t + 1) = 100 ∧ K2.2.1 (t + 1) = 20 ∧ R2 t 0 = some d) (k2n : K2.2.2.1 ≤ K.2.2.1 + 8) (kz : K2.2.2.2 ≤ K.2.2.2 + 100) : Inv (N + 1) (rfH J n kd bo ra fr nw wi) L2 R2 K2 := by
  have hD := hI.2.1
  have hS := hI.2.2.1
  have hR := hI.2.2.2.2.2.2.2.2.2.2.2.1
  have hd6 := hD.2.2.2.2.2.2.2.2.2.2.2.2.2.2.2.2.2.2.1
  have hx := hD.2.2.2.2.2.2.2.2.2.2.2.2.2.2.2.2.2.2.2
  have h131 : 131 ≤ K.2.2.1 := hI.1.2.2
  rw [hd] at hx hd6
  have rd2 : rf R2 0 10 = t + 2 := rf_eq R2d
  have rt0 : rf R2 t 0 = d := rf_eq ho.2.2.2.2
  have ct := clH_t (J1 := J1) (n := n) (kd := kd) (bo := bo) (ra := ra) (fr := fr) (nw := nw) (wi := wi) (show 131 ≤ t by omega)
  have cell := rul_cell (n := n) (kd := kd) (bo := bo) (ra := ra) (fr := fr) (nw := nw) (wi := wi) hx (show d + 6 ≤ t by omega) (show 131 ≤ t by omega) J1o fz
  have rt : ∀ j, rfH J n kd bo ra fr nw wi t j = clH J1 t n kd bo ra fr nw wi t j := fun j => by rw [rfH_o (by omega) (by omega), fz t j (by omega) (by omega) (by omega)]
  have r24 : rfH J n kd bo ra fr nw wi 2 4 = (n : Int) + 1 := by rw [rfH_o (by omega) (by omega), fz 2 4 (by omega) (by omega) (by omega)]; exact ct.2.2.2.2.2.2.2.2.1
  have r011 : rfH J n kd bo ra fr nw wi 0 11 = 0 := by rw [rfH_o (by omega) (by omega), fz 0 11 (by omega) (by omega) (by omega)]; exact ct.2.2.2.2.2.2.2.2.2
  have rv := rfH_v (J := J) (n := n) (kd := kd) (bo := bo) (ra := ra) (fr := fr) (nw := nw) (wi := wi)
  have tF : TextEq (rfH J n kd bo ra fr nw wi) L2 R2 K2 d n := tn.fr tn.1 (rfH_o (by omega) (by omega)) (rfH_o (by omega) (by omega)) (rfH_o (by omega) (by omega)) (rfH_o (by omega) (by omega)) (rfH_o (by omega) (by omega)) (fun k _ => rfH_o (by omega) (by omega)) (fun _ => rfl)
  have c91 : rfH J n kd bo ra fr nw wi 91 n = 0 := by
    rw [cell 91 n (by unfold Nr Sc; omega)]
    exact hR.2.2.2.2.2.2 n hn8 (by rw [hn]; exact Int.le_refl _)
  have t8 : J1 t 8 = 0 := by rw [J1o t 8 (by omega)]; exact f8
  have hi : OldJ (rf R 0 10) n I (rfH J n kd bo ra fr nw wi) := by rw [hd]; exact cell
  generalize rfH J n kd bo ra fr nw wi = F at *
  have hnew : RuleEq F L2 R2 K2 t n := by
    unfold RuleEq
    rw [rt0, rt 1, rt 2, rt 3, rt 4, rt 5, rt 6, rt 8, rt 9, ct.1, ct.2.1, ct.2.2.1, ct.2.2.2.1, ct.2.2.2.2.1, ct.2.2.2.2.2.1, ct.2.2.2.2.2.2.1, ct.2.2.2.2.2.2.2.1, rv.1, rv.2.1, rv.2.2.1, rv.2.2.2.1, rv.2.2.2.2.1, rv.2.2.2.2.2.1, rv.2.2.2.2.2.2.1, c91, t8]
    exact ⟨⟨by omega, ho⟩, ⟨rfl, r1⟩, ⟨rfl, r2⟩, ⟨rfl, r3⟩, ⟨rfl, r4⟩, ⟨rfl, r5⟩, ⟨rfl, r6⟩, ⟨rfl, by omega, by omega⟩, ⟨rfl, by omega, by omega⟩, fun g => absurd rfl g, fun i hi3 => by omega, tF⟩
  exact inv_rul (t := t) hI hL2 (by rw [rd2]; exact ⟨R2d, hD2⟩) hn hn8 hi ⟨r011, rv.2.2.2.2.2.2.2.2⟩ (by rw [hd]; exact hr) (by rw [hd]; exact hk) (by rw [hd]; exact hl2) h37 (invR_r (by rw [hd]; exact hx) hR hn hn8 hi (by rw [hd]; exact hr) (by rw [hd]; exact hk) (by rw [hd]; exact hl2) rv.2.2.2.2.2.2.2.1 r24 h3 (by rw [hd]; omega) (by rw [rd2]; omega) (by rw [rt0, rd2]; omega) hnew) (by rw [hd, rd2]; omega) k2n kz
