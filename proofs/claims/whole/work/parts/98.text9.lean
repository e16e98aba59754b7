/-! texts: what was read is the same text on both sides -/
theorem tape_eq {I : IH} (h : InvS I) : bT I (I 0 11) = bM I ∧ (min (I 0 11) 90).toNat = (I 77 2).toNat ∧ 0 ≤ I 0 11 ∧ 0 ≤ I 77 2 ∧ I 77 2 ≤ 90 := by
  obtain ⟨h1, h2, h3, h4, h5, h6, h7, h8, h9, h10, h11⟩ := h
  have em : min (I 0 11) 90 = I 77 2 := by omega
  refine ⟨?_, by rw [em], by omega, h5, h6⟩
  funext p
  unfold bT bM
  rw [em]
  by_cases q : (p : Int) < I 77 2
  · rw [if_pos q, if_pos q]; exact (h11 p (by omega)).1
  · rw [if_neg q, if_neg q]
theorem conT_ne {b : Nat → Int} {len : Nat} {u : Int} {V : Nat × Bool} (h : (conT b len u V).2.1 = true) : (conT b len u V).2.2.2 ≠ [] := by
  unfold conT at h ⊢
  by_cases q1 : V.2 = true
  · rw [if_pos q1] at h ⊢
    by_cases q2 : (testS b V.1).2.1 = true
    · rw [if_pos q2]
      exact fun g => by cases g
    · rw [if_neg q2] at h; cases h
  · rw [if_neg q1] at h; cases h
theorem conS_ne {b : Nat → Int} {len p : Nat} (h : (conS b len p).2.1 = true) : (conS b len p).2.2.2 ≠ [] := by
  unfold conS at h ⊢
  by_cases q1 : (wd b (strF 11) p).2 = true
  · rw [if_pos q1] at h ⊢
    by_cases q2 : b (wd b (strF 11) p).1 = 117
    · rw [if_pos q2] at h ⊢; exact conT_ne h
    · rw [if_neg q2] at h ⊢; exact conT_ne h
  · rw [if_neg q1] at h; cases h
theorem textS_f {b : Nat → Int} {len : Nat} (h : (textS b len).2.1 = true) : ((textS b len).2.2.1 = 0 ∨ (textS b len).2.2.1 = 1 ∨ (100 ≤ (textS b len).2.2.1 ∧ (textS b len).2.2.1 ≤ 203)) ∧ ((textS b len).2.2.2.2 = [] → (textS b len).2.2.2.1 = 0) := by
  unfold textS at h ⊢
  by_cases q1 : (endS b 0).2.1 = true
  · rw [if_pos q1] at h ⊢
    by_cases q2 : len ≤ (endS b 0).1
    · rw [if_pos q2]
      exact ⟨endS_e q1, fun _ => rfl⟩
    · rw [if_neg q2] at h ⊢
      exact ⟨endS_e q1, fun g => absurd g (conS_ne h)⟩
  · rw [if_neg q1] at h; cases h
theorem text_new {J : IH} {L : LH} {R : RH} {K : KH} {d t : Nat} {b : Nat → Int} {len : Nat} (hd : DraftAt R K d) (hok : (textS b len).2.1 = true) (hf : FitC J L d (textS b len)) (h79 : J 79 t = (textS b len).2.2.1) (h80 : J 80 t = (textS b len).2.2.2.1) (h81 : J 81 t = ((textS b len).2.2.2.2.length : Int)) (h82 : MDone J t (textS b len).2.2.2.2) : TextEq J L R K d t := by
  have tf := textS_f hok
  generalize textS b len = T at *
  obtain ⟨T1, T2, T3, T4, T5⟩ := T
  obtain ⟨f1, f2, f3, f4, f5⟩ := hf
  have c1 := hd.2.2.2.2.2.2.2.2.2.2.2.2
  refine ⟨⟨c1.2.2.2.2.2.2, hd.1, hd.2.2.2.2.2.1, c1.1, c1.2.1, c1.2.2.1, c1.2.2.2.1⟩, ⟨f1.trans h79.symm, by rw [h79]; exact tf.1, f2.trans h81.symm, by rw [h81]; exact Int.natCast_nonneg _, by rw [h81]; exact Int.ofNat_le.mpr f3, fun k hk => ?_⟩, fun s hs => ?_⟩
  · rw [h81] at hk
    have hk2 : k < T5.length := Int.ofNat_lt.mp hk
    rw [h82 k hk2]
    exact f4 k hk2
  · rw [f5 s hs]
    unfold fitsM fitsB
    rw [h81, h80]
    have ea : anyAll (fun k => J 82 (5 * t + k)) (s : Int) T5.length = anyAll (fun k => T5.getD k 0) (s : Int) T5.length := anyAll_c _ (fun k hk => h82 k hk)
    show hldV T5 (s : Int) ≠ T4 ↔ (if ((T5.length : Nat) : Int) = 0 then true else decide (bi ((anyAll (fun k => J 82 (5 * t + k)) (s : Int) ((T5.length : Nat) : Int).toNat).1 || (anyAll (fun k => J 82 (5 * t + k)) (s : Int) ((T5.length : Nat) : Int).toNat).2) ≠ T4)) = true
    rw [Int.toNat_natCast, ea]
    by_cases q : ((T5.length : Nat) : Int) = 0
    · have e5 : T5 = [] := List.eq_nil_of_length_eq_zero (by omega)
      have e4 : T4 = 0 := tf.2 e5
      rw [if_pos q, e5, e4]
      exact ⟨fun _ => rfl, fun _ => (show (1 : Int) ≠ 0 by decide)⟩
    · rw [if_neg q, decide_eq_true_iff]
      exact Iff.rfl
theorem fitC_z {J J2 : IH} {L : LH} {R : RH} {K : KH} {d t : Nat} {T : Nat × Bool × Int × Int × List Int} (hd : DraftAt R K d) (hf : FitC J L d T) (h : FrZ t J J2) : FitC J2 L d T := by
  have hx := hd.2.2.2.2.2.2.2.2.2.2.2.2.2.2.2.2.2.2
  obtain ⟨f1, f2, f3⟩ := hf
  exact ⟨by rw [h d 8 (by omega) (by omega) (by omega)]; exact f1, by rw [h d 9 (by omega) (by omega) (by omega)]; exact f2, f3⟩
theorem bM_frc {J I : IH} {R : RH} {K : KH} {d : Nat} (hd : DraftAt R K d) (h : FrC d I J) : bM J = bM I ∧ J 77 2 = I 77 2 := by
  have hx := hd.2.2.2.2.2.2.2.2.2.2.2.2.2.2.2.2.2.2
  refine ⟨?_, h 77 2 (by omega) (by omega) (by omega) (by omega)⟩
  funext p
  unfold bM
  rw [h 77 2 (by omega) (by omega) (by omega) (by omega), h 78 p (by omega) (by omega) (by omega) (by omega)]
