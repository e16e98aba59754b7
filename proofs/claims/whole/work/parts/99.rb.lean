/-! the two constructors, by evaluation -/
def P0 (I : IH) (R : RH) (K : KH) : Prop := (∀ a, a < layN → K.1 a = layKs.getD a 0 ∧ K.2.1 a = layLs.getD a 0) ∧ (∀ e ∈ layRs, R e.1 e.2.1 = some e.2.2) ∧ (K.2.2.1 = 131 ∧ K.2.2.2 = 19600 ∧ R 0 10 = some 71) ∧ (K.1 71 = 9 ∧ R 71 0 = some 1 ∧ R 71 1 = some 72 ∧ R 71 2 = some 73 ∧ R 71 3 = some 74 ∧ R 71 4 = some 75 ∧ K.1 72 = 100 ∧ K.2.1 72 = 5 ∧ K.1 73 = 100 ∧ K.2.1 73 = 5 ∧ K.1 74 = 101 ∧ K.2.1 74 = 5 ∧ K.1 75 = 7 ∧ R 75 0 = some 76 ∧ K.1 76 = 102 ∧ K.2.1 76 = 24) ∧ (I 0 12 = 0 ∧ I 77 0 = 0 ∧ I 0 11 = 0 ∧ I 77 2 = 0 ∧ I 0 13 = 2 ∧ I 77 22 = 2 ∧ I 77 57 = -1) ∧ (∀ j, j < 90 → I 1 j = 0 ∧ I 78 j = 0) ∧ (I 14 8 = 0 ∧ I 77 18 = 0) ∧ (∀ j, j < 8 → I 15 j = 0 ∧ I 93 j = 0 ∧ I 16 j = 0 ∧ I 94 j = 0) ∧ (I 14 9 = 0 ∧ I 77 27 = 0 ∧ I 22 5 = 0 ∧ I 77 23 = 0) ∧ (I 27 9 = 0 ∧ I 77 31 = 0) ∧ (∀ j, j < 30 → I 107 j = 0 ∧ I 33 j = 0 ∧ I 108 j = 0) ∧ (∀ j, j < 8 → I 18 j = 0 ∧ I 110 j = 0) ∧ (I 45 2 = 0 ∧ I 77 43 = 0 ∧ I 45 3 = 0 ∧ I 77 45 = 0) ∧ (∀ j, j < 7 → I 46 j = 0 ∧ I 113 j = 0) ∧ (∀ s, s < 9 → ∀ l, l < 7 → I (48 + s) l = 0 ∧ I 114 (7 * s + l) = 0) ∧ (∀ j, j < 8 → I 58 j = 1 ∧ I 115 j = 1 ∧ I 59 j = 0 ∧ I 116 j = 0 ∧ I 60 j = -1 ∧ I 117 j = -1) ∧ (I 2 5 = 0 ∧ I 77 51 = 0) ∧ (∀ j, j < 3 → I 67 j = -1 ∧ I 119 j = -1 ∧ I 68 j = 0 ∧ I 120 j = 0) ∧ (I 2 4 = 0 ∧ I 77 7 = 0) ∧ (∀ j, j < 80 → I 91 j = 0) ∧ (∀ j, j < 5 → I 39 j = 0 ∧ I 111 j = 0)
def chkP (I : IH) (R : RH) (K : KH) : Bool := decide (∀ a, a < layN → K.1 a = layKs.getD a 0 ∧ K.2.1 a = layLs.getD a 0) && (decide (∀ e ∈ layRs, R e.1 e.2.1 = some e.2.2) && (decide (K.2.2.1 = 131 ∧ K.2.2.2 = 19600 ∧ R 0 10 = some 71) && (decide (K.1 71 = 9 ∧ R 71 0 = some 1 ∧ R 71 1 = some 72 ∧ R 71 2 = some 73 ∧ R 71 3 = some 74 ∧ R 71 4 = some 75 ∧ K.1 72 = 100 ∧ K.2.1 72 = 5 ∧ K.1 73 = 100 ∧ K.2.1 73 = 5 ∧ K.1 74 = 101 ∧ K.2.1 74 = 5 ∧ K.1 75 = 7 ∧ R 75 0 = some 76 ∧ K.1 76 = 102 ∧ K.2.1 76 = 24) && (decide (I 0 12 = 0 ∧ I 77 0 = 0 ∧ I 0 11 = 0 ∧ I 77 2 = 0 ∧ I 0 13 = 2 ∧ I 77 22 = 2 ∧ I 77 57 = -1) && ((List.range 90).all (fun j => decide (I 1 j = 0 ∧ I 78 j = 0)) && (decide (I 14 8 = 0 ∧ I 77 18 = 0) && ((List.range 8).all (fun j => decide (I 15 j = 0 ∧ I 93 j = 0 ∧ I 16 j = 0 ∧ I 94 j = 0)) && (decide (I 14 9 = 0 ∧ I 77 27 = 0 ∧ I 22 5 = 0 ∧ I 77 23 = 0) && (decide (I 27 9 = 0 ∧ I 77 31 = 0) && ((List.range 30).all (fun j => decide (I 107 j = 0 ∧ I 33 j = 0 ∧ I 108 j = 0)) && ((List.range 8).all (fun j => decide (I 18 j = 0 ∧ I 110 j = 0)) && (decide (I 45 2 = 0 ∧ I 77 43 = 0 ∧ I 45 3 = 0 ∧ I 77 45 = 0) && ((List.range 7).all (fun j => decide (I 46 j = 0 ∧ I 113 j = 0)) && ((List.range 9).all (fun s => (List.range 7).all (fun l => decide (I (48 + s) l = 0 ∧ I 114 (7 * s + l) = 0))) && ((List.range 8).all (fun j => decide (I 58 j = 1 ∧ I 115 j = 1 ∧ I 59 j = 0 ∧ I 116 j = 0 ∧ I 60 j = -1 ∧ I 117 j = -1)) && (decide (I 2 5 = 0 ∧ I 77 51 = 0) && ((List.range 3).all (fun j => decide (I 67 j = -1 ∧ I 119 j = -1 ∧ I 68 j = 0 ∧ I 120 j = 0)) && (decide (I 2 4 = 0 ∧ I 77 7 = 0) && ((List.range 80).all (fun j => decide (I 91 j = 0)) && ((List.range 5).all (fun j => decide (I 39 j = 0 ∧ I 111 j = 0))))))))))))))))))))))
theorem chkP_ok {I : IH} {R : RH} {K : KH} (h : chkP I R K = true) : P0 I R K := by
  unfold chkP at h
  simp only [Bool.and_eq_true, List.all_eq_true, List.mem_range, decide_eq_true_eq] at h
  exact h
def chk1 (o : Option ARes) : Bool := match o with
  | some (none, I, _, R, K) => chkP I R K
  | _ => false
def chk0 (o : Option ARes) : Bool := match o with
  | some (none, I, L, R, K) => K.2.2.1 == 77 && chk1 (amRun0 1000 65 0 [some (aR (some 77))] [] I L R (amAlloc K 12 (nFld 12)))
  | _ => false
set_option maxHeartbeats 0 in
theorem init_ev : chk0 (amRun0 1000 0 0 [some (aR (some 0))] [] I0 L0 R0 (amAlloc K0 11 (nFld 11))) = true := by decide +kernel
theorem init_run {sc : Nat × (Nat → Int)} : ∃ (I1 : IH) (L1 : LH) (R1 : RH) (K1 : KH) (I2 : IH) (L2 : LH) (R2 : RH) (K2 : KH), amRun sc 1000 0 0 [some (aR (some 0))] [] I0 L0 R0 (amAlloc K0 11 (nFld 11)) = some (none, I1, L1, R1, K1) ∧ K1.2.2.1 = 77 ∧ amRun sc 1000 65 0 [some (aR (some 77))] [] I1 L1 R1 (amAlloc K1 12 (nFld 12)) = some (none, I2, L2, R2, K2) ∧ P0 I2 R2 K2 := by
  have h := init_ev
  generalize e1 : amRun0 1000 0 0 [some (aR (some 0))] [] I0 L0 R0 (amAlloc K0 11 (nFld 11)) = o at h
  match o, e1, h with
  | some (none, I1, L1, R1, K1), e1, h =>
    have h : (K1.2.2.1 == 77 && chk1 (amRun0 1000 65 0 [some (aR (some 77))] [] I1 L1 R1 (amAlloc K1 12 (nFld 12)))) = true := h
    rw [Bool.and_eq_true] at h
    obtain ⟨h1, h2⟩ := h
    generalize e2 : amRun0 1000 65 0 [some (aR (some 77))] [] I1 L1 R1 (amAlloc K1 12 (nFld 12)) = o2 at h2
    match o2, e2, h2 with
    | some (none, I2, L2, R2, K2), e2, h2 => exact ⟨I1, L1, R1, K1, I2, L2, R2, K2, run0_ok _ _ _ _ _ _ _ _ _ _ e1, eq_of_beq h1, run0_ok _ _ _ _ _ _ _ _ _ _ e2, chkP_ok h2⟩
    | some (some v, I2, L2, R2, K2), e2, h2 => exact absurd h2 Bool.false_ne_true
    | none, e2, h2 => exact absurd h2 Bool.false_ne_true
  | some (some v, I1, L1, R1, K1), e1, h => exact absurd h Bool.false_ne_true
  | none, e1, h => exact absurd h Bool.false_ne_true
theorem inv_0 {I : IH} {L : LH} {R : RH} {K : KH} (h : P0 I R K) : Inv 0 I L R K := by
  obtain ⟨h1a, h1b, ⟨h2, h3, h4⟩, h5, ⟨s1, s2, s3, s4, s5, s6, s7⟩, s8, ⟨d1, d2⟩, d3, ⟨e1, e2, c1, c2⟩, ⟨p1, p2⟩, p3, p4, ⟨t1, t2, t3, t4⟩, t5, t6, l1, ⟨a1, a2⟩, x1, ⟨r1, r2⟩, r3, w1⟩ := h
  have r71 : rf R 0 10 = 71 := rf_eq h4
  obtain ⟨g1, g2, g3, g4, g5, g6, g7, g8, g9, g10, g11, g12, g13, g14, g15, g16⟩ := h5
  refine ⟨⟨h1a, h1b, by show 131 ≤ K.2.2.1; omega⟩, ⟨by rw [r71]; exact h4, by rw [r71]; exact ⟨g1, g2, g3, g4, g5, g6, g7, g8, g9, g10, g11, g12, g13, g14, g15, g16, by omega, by omega, .inl rfl⟩⟩, ?_, ?_, ?_, ?_, ?_, ?_, ?_, ?_, ?_, ?_, ?_, by omega, by omega⟩
  · exact ⟨by omega, by omega, by omega, by omega, by omega, by omega, by omega, by omega, by omega, s7, fun j hj => by have := s8 j hj; omega⟩
  · exact ⟨by omega, by omega, by omega, fun d hd => by have := d3 d hd; omega, fun d hd => by omega⟩
  · exact ⟨by omega, by omega, by omega, fun i hi => by omega⟩
  · exact ⟨by omega, by omega, by omega, fun i hi => by omega⟩
  · have z1 : sumTo (fun j => I 107 j) 30 = 0 := sumTo_0 30 (fun j hj => (p3 j hj).1)
    have z2 : sumTo (fun j => I 110 j) 8 = 0 := sumTo_0 8 (fun j hj => (p4 j hj).2)
    exact ⟨by omega, by omega, by omega, fun i hi => by omega, fun i hi => by have := p3 i hi; omega, fun d hd => by have := p4 d hd; omega, by rw [z1, z2, p2]; decide⟩
  · exact ⟨by omega, by omega, by omega, by omega, by omega, by omega, fun l hl => by have := t5 l hl; omega, fun s l hs hl => by have := t6 s hs l hl; omega⟩
  · exact ⟨fun d hd => by have := l1 d hd; omega, ⟨fun _ => 0, fun d hd => .inl (l1 d hd).2.2.2.2.2⟩⟩
  · exact ⟨by omega, by omega, by omega, fun i _ hi => by omega⟩
  · exact ⟨fun s hs => by have := x1 s hs; omega, fun s i hs _ hn => absurd (x1 s hs).2.1 hn⟩
  · exact ⟨by omega, by omega, by omega, fun r hr => by omega, fun r s hr => by omega, fun r hr => by omega, fun r hr _ => r3 r hr⟩
  · exact ⟨fun l hl => by have := w1 l hl; omega, fun l w hl hw => by have := w1 l hl; omega⟩
