/-! texts: the whole, as the class reads it -/
theorem aftS_len {b : Nat → Int} {len : Nat} : ∀ k p, (aftS b len k p).2.2.length ≤ k := by
  intro k
  induction k with
  | zero => intro p; exact Nat.le_refl _
  | succ k ih =>
    intro p
    rw [aftS]
    split
    · exact Nat.zero_le _
    · split
      · exact Nat.succ_le_succ (ih _)
      · exact Nat.zero_le _
theorem conT_len {b : Nat → Int} {len : Nat} {u : Int} {V : Nat × Bool} : (conT b len u V).2.2.2.length ≤ 5 := by
  unfold conT
  split
  · split
    · exact Nat.succ_le_succ (aftS_len _ _)
    · exact Nat.zero_le _
  · exact Nat.zero_le _
theorem conS_len {b : Nat → Int} {len p : Nat} : (conS b len p).2.2.2.length ≤ 5 := by
  unfold conS
  split
  · split
    · exact conT_len
    · exact conT_len
  · exact Nat.zero_le _
theorem anyAll_g {f g : Nat → Int} {s : Int} : ∀ n, (∀ k, k < n → (1000 ≤ f k ↔ 1000 ≤ g k) ∧ holdsT (f k) s = holdsT (g k) s) → anyAll f s n = anyAll g s n := by
  intro n
  induction n with
  | zero => intro _; rfl
  | succ n ih =>
    intro h
    have h1 := h n (Nat.lt_succ_self n)
    rw [anyAll, anyAll, ih (fun k hk => h k (Nat.lt_succ_of_lt hk)), h1.2]
    by_cases q : 1000 ≤ f n
    · rw [if_pos q, if_pos (h1.1.mp q)]
    · rw [if_neg q, if_neg (fun g => q (h1.1.mpr g))]
theorem hldV_eq {J : IH} {d : Nat} {cs ds : List Int} {s : Int} (h : Done J d cs) (h2 : Done J d ds) (hs : 0 ≤ s ∧ s < 1536) : hldV cs s = hldV ds s := by
  have el : cs.length = ds.length := by have := h.1; have := h2.1; omega
  unfold hldV
  rw [el, anyAll_g (f := fun k => cs.getD k 0) (g := fun k => ds.getD k 0) ds.length (fun k hk => ?_)]
  obtain ⟨⟨a1, a2, a3⟩, a4⟩ := h.2 k (by omega)
  obtain ⟨⟨b1, b2, b3⟩, b4⟩ := h2.2 k hk
  have ba := bit_ok (s := s) a4 hs
  have bb := bit_ok (s := s) b4 hs
  rw [← a1, ← a2] at ba
  rw [← b1, ← b2] at bb
  refine ⟨by show 1000 ≤ cs.getD k 0 ↔ 1000 ≤ ds.getD k 0; omega, ?_⟩
  show holdsT (cs.getD k 0) s = holdsT (ds.getD k 0) s
  have := ba.symm.trans bb
  cases e1 : holdsT (cs.getD k 0) s <;> cases e2 : holdsT (ds.getD k 0) s
  · rfl
  · rw [e1, e2] at this; exact absurd (this.mpr rfl) Bool.false_ne_true
  · rw [e1, e2] at this; exact absurd (this.mp rfl) Bool.false_ne_true
  · rfl
theorem w_294_0 {sc : Nat × (Nat → Int)} {I : IH} {L : LH} {R : RH} {K : KH} {Q : AQ} {d : Nat} (hL : Lay R K) (h : (K.1 d = 9 ∧ R d 4 = some (rf R d 4)) ∧ ((K.1 (rf R d 4) = 7) ∧ (SetAt R K (rf R d 4))) ∧ E sc 294 9 [some (aR (some d)), some (aI 0)] [] I (fillF L (rf R (rf R d 4) 0) 24 (Int64.ofNat ((0 : _root_.Fin 2) : Nat))) R K Q) : E sc 294 0 [some (aR (some d)), none] [] I L R K Q :=
  e_aload_n mb_294 dX9_findFitting_0 rfl (e_getr mb_294 dX9_findFitting_1 mf_294.1 fs_36889 fk_9_4 h.1.1 h.1.2 (e_callV mb_294 dX9_findFitting_4 mf_294 mf_260 cs_37009 rfl rfl rfl rfl h.2.1.1 rfl (v_260 hL h.2.1.2 (show E _ _ _ _ [] _ _ _ _ _ from e_iconst mb_294 dX9_findFitting_7 cv_iconst_0 (e_istore_n (l1 := [some (aR (some d)), some (aI 0)]) mb_294 dX9_findFitting_8 rfl h.2.2)))))
theorem w_294_9 {sc : Nat × (Nat → Int)} {cs : List Int} {I : IH} {L : LH} {R : RH} {K : KH} {Q : AQ} {x1 : Int} {r0 : Nat} (hL : Lay R K) (h : ((1536 ≤ x1 → Q none I L R K) ∧ (x1 < 1536 → (K.1 r0 = 9 ∧ (DraftAt R K r0 ∧ Done I r0 cs ∧ cs.length ≤ 5 ∧ ((0 : Int) ≤ x1 ∧ x1 < (1536 : Int)))) ∧ (K.1 r0 = 9) ∧ (((hldV cs x1) = (I r0 5) → ((-2147483648 : Int) ≤ x1 + 1 ∧ x1 + 1 < (2147483648 : Int)) ∧ E sc 294 9 [some (aR (some r0)), some (aI (x1 + 1))] [] I L R K Q) ∧ ((hldV cs x1) ≠ (I r0 5) → (K.1 r0 = 9 ∧ R r0 4 = some (rf R r0 4)) ∧ ((K.1 (rf R r0 4) = 7) ∧ (SetAt R K (rf R r0 4)) ∧ (0 ≤ x1 ∧ x1 < 1536)) ∧ (∀ (L1 : LH), (∀ b j, b ≠ (rf R (rf R r0 4) 0) → L1 b j = L b j) → (∀ s, s < 1536 → (inSet L1 (rf R (rf R r0 4) 0) s ↔ inSet L (rf R (rf R r0 4) 0) s ∨ s = x1.toNat)) → ((-2147483648 : Int) ≤ x1 + 1 ∧ x1 + 1 < (2147483648 : Int)) ∧ E sc 294 9 [some (aR (some r0)), some (aI (x1 + 1))] [] I L1 R K Q)))))) : E sc 294 9 [some (aR (some r0)), some (aI x1)] [] I L R K Q :=
  e_iload_n mb_294 dX9_findFitting_9 rfl (e_sipush mb_294 dX9_findFitting_10 cv_sipush_1536 (e_icmp mb_294 dX9_findFitting_13 rfl (fun q1 => e_return mb_294 dX9_findFitting_42 rv_294 (h.1 (cb_ge.1.mp q1))) (fun q1 => e_aload_n mb_294 dX9_findFitting_16 rfl (e_iload_n mb_294 dX9_findFitting_17 rfl (e_callV mb_294 dX9_findFitting_18 mf_294 mf_295 cs_37012 rfl rfl rfl rfl (h.2 (cb_ge.2.mp q1)).1.1 rfl (v_295 hL (h.2 (cb_ge.2.mp q1)).1.2 (show E _ _ _ _ (_ :: _) _ _ _ _ _ from e_aload_n mb_294 dX9_findFitting_21 rfl (e_getv mb_294 dX9_findFitting_22 mf_294.1 fs_36912 (Or.inr fk_9_5) (h.2 (cb_ge.2.mp q1)).2.1 rfl (e_icmp mb_294 dX9_findFitting_25 rfl (fun q2 => e_iinc (l1 := [some (aR (some r0)), some (aI (x1 + 1))]) mb_294 dX9_findFitting_36 rfl ((h.2 (cb_ge.2.mp q1)).2.2.1 (cb_eq.1.mp q2)).1 rfl (e_goto mb_294 dX9_findFitting_39 rfl (((h.2 (cb_ge.2.mp q1)).2.2.1 (cb_eq.1.mp q2)).2))) (fun q2 => e_aload_n mb_294 dX9_findFitting_28 rfl (e_getr mb_294 dX9_findFitting_29 mf_294.1 fs_36889 fk_9_4 ((h.2 (cb_ge.2.mp q1)).2.2.2 (cb_eq.2.mp q2)).1.1 ((h.2 (cb_ge.2.mp q1)).2.2.2 (cb_eq.2.mp q2)).1.2 (e_iload_n mb_294 dX9_findFitting_32 rfl (e_callV mb_294 dX9_findFitting_33 mf_294 mf_261 cs_37015 rfl rfl rfl rfl ((h.2 (cb_ge.2.mp q1)).2.2.2 (cb_eq.2.mp q2)).2.1.1 rfl (v_261 hL ((h.2 (cb_ge.2.mp q1)).2.2.2 (cb_eq.2.mp q2)).2.1.2.1 ((h.2 (cb_ge.2.mp q1)).2.2.2 (cb_eq.2.mp q2)).2.1.2.2 (fun L1 hp2 hp3 => (show E _ _ _ _ [] _ _ _ _ _ from e_iinc (l1 := [some (aR (some r0)), some (aI (x1 + 1))]) mb_294 dX9_findFitting_36 rfl (((h.2 (cb_ge.2.mp q1)).2.2.2 (cb_eq.2.mp q2)).2.2 L1 hp2 hp3).1 rfl (e_goto mb_294 dX9_findFitting_39 rfl ((((h.2 (cb_ge.2.mp q1)).2.2.2 (cb_eq.2.mp q2)).2.2 L1 hp2 hp3).2))))))))))))))))))
theorem v_294 {sc : Nat × (Nat → Int)} {I : IH} {L : LH} {R : RH} {K : KH} {Q : AQ} {d : Nat} (hL : Lay R K) (hp : DraftAt R K d ∧ ∃ cs, Done I d cs ∧ cs.length ≤ 5) (h : ∀ L1 : LH, (∀ b j, b ≠ d + 5 → L1 b j = L b j) → (∀ cs, Done I d cs → ∀ s : Nat, s < 1536 → (inSet L1 (d + 5) s ↔ hldV cs (s : Int) ≠ I d 5)) → Q none I L1 R K) : E sc 294 0 [some (aR (some d)), none] [] I L R K Q := by
  obtain ⟨hd, cs, dn, h5⟩ := hp
  have c1 := hd.2.2.2.2.2.2.2.2.2.2.2.2
  have r4 : rf R d 4 = d + 4 := rf_eq hd.2.2.2.2.2.1
  have r5 : rf R (d + 4) 0 = d + 5 := rf_eq c1.2.1
  have A4 : K.1 d = 9 ∧ R d 4 = some (d + 4) := ⟨hd.1, hd.2.2.2.2.2.1⟩
  have S4 : SetAt R K (d + 4) := by unfold SetAt; rw [r5]; exact ⟨c1.1, c1.2.1, c1.2.2.1, c1.2.2.2.1⟩
  have key : (fun (m : Nat) => ∀ (L1 : LH) (x : Int), (∀ b j, b ≠ d + 5 → L1 b j = L b j) → (∀ s : Nat, s < 1536 → (inSet L1 (d + 5) s ↔ s < m ∧ hldV cs (s : Int) ≠ I d 5)) → x = (m : Int) → E sc 294 9 [some (aR (some d)), some (aI x)] [] I L1 R K Q) 0 := by
    refine loop_up (C := fun (m : Nat) => ∀ (L1 : LH) (x : Int), (∀ b j, b ≠ d + 5 → L1 b j = L b j) → (∀ s : Nat, s < 1536 → (inSet L1 (d + 5) s ↔ s < m ∧ hldV cs (s : Int) ≠ I d 5)) → x = (m : Int) → E sc 294 9 [some (aR (some d)), some (aI x)] [] I L1 R K Q) 1536 ?_ ?_
    · intro m hm hc L1 x hl hset hx
      subst hx
      refine w_294_9 (cs := cs) hL ?_
      rw [r4, r5]
      refine ⟨fun q => by omega, fun q => ⟨⟨hd.1, hd, dn, h5, by omega, by omega⟩, hd.1, fun q2 => ⟨by omega, hc _ _ hl ?_ (by omega)⟩, fun q2 => ⟨A4, ⟨c1.1, S4, by omega, by omega⟩, fun L2 g1 g2 => ⟨by omega, hc _ _ (fun b j hb => (g1 b j hb).trans (hl b j hb)) ?_ (by omega)⟩⟩⟩⟩
      · intro s hs2
        rw [hset s hs2]
        constructor
        · rintro ⟨s1, s2⟩; exact ⟨by omega, s2⟩
        · rintro ⟨s1, s2⟩
          refine ⟨?_, s2⟩
          by_cases e : s = m
          · subst e; exact absurd q2 s2
          · omega
      · intro s hs2
        rw [g2 s hs2, hset s hs2, Int.toNat_natCast]
        constructor
        · rintro (⟨s1, s2⟩ | s1)
          · exact ⟨by omega, s2⟩
          · subst s1; exact ⟨by omega, q2⟩
        · rintro ⟨s1, s2⟩
          by_cases e : s = m
          · exact Or.inr e
          · exact Or.inl ⟨by omega, s2⟩
    · intro L1 x hl hset hx
      refine w_294_9 (cs := cs) hL ⟨fun q => h L1 hl (fun ds hds s hs2 => ?_), fun q => by omega⟩
      rw [hset s hs2, hldV_eq hds dn (by omega)]
      exact ⟨fun q2 => q2.2, fun q2 => ⟨hs2, q2⟩⟩
  refine w_294_0 hL ?_
  rw [r4, r5]
  refine ⟨A4, ⟨c1.1, S4⟩, key _ _ (fun a j q => ?_) (fun s hs2 => ?_) rfl⟩
  · unfold fillF; rw [if_neg (fun q2 => q q2.1)]
  · unfold inSet fillF
    rw [if_pos ⟨rfl, by omega⟩]
    constructor
    · intro q; rw [show (Int64.ofNat ((0 : _root_.Fin 2) : Nat)).toBitVec.getLsbD (s % 64) = false from BitVec.getLsbD_zero] at q; exact absurd q Bool.false_ne_true
    · rintro ⟨s1, -⟩; omega
def bT (I : IH) (n : Int) : Nat → Int := fun p => if (p : Int) < min n 90 then I 1 p else -1
def FrC (d : Nat) (I J : IH) : Prop := ∀ a j : Nat, ¬ (a = d ∧ 5 ≤ j ∧ j ≤ 9) → a ≠ d + 1 → a ≠ d + 2 → a ≠ d + 3 → J a j = I a j
def FitC (J : IH) (L1 : LH) (d : Nat) (T : Nat × Bool × Int × Int × List Int) : Prop := J d 8 = T.2.2.1 ∧ J d 9 = (T.2.2.2.2.length : Int) ∧ T.2.2.2.2.length ≤ 5 ∧ (∀ k, k < T.2.2.2.2.length → 0 ≤ T.2.2.2.2.getD k 0 ∧ T.2.2.2.2.getD k 0 < 2000) ∧ ∀ s : Nat, s < 1536 → (inSet L1 (d + 5) s ↔ hldV T.2.2.2.2 (s : Int) ≠ T.2.2.2.1)
theorem w_280_0 {sc : Nat × (Nat → Int)} {I : IH} {L : LH} {R : RH} {K : KH} {Q : AQ} {n : Int} {d : Nat} (hL : Lay R K) (h : (K.1 d = 9 ∧ R d 0 = some (rf R d 0)) ∧ (100 ≤ K.1 (rf R d 0) ∧ K.1 (rf R d 0) ≤ 105) ∧ (K.1 d = 9) ∧ (K.1 d = 9) ∧ (K.1 d = 9) ∧ (K.1 d = 9) ∧ ((K.1 d = 9) ∧ (DraftAt R K d ∧ AtOK (setF (setF (setF (setF I d 6 (min n ((K.2.1 (rf R d 0) : Nat) : Int))) d 7 0) d 9 0) d 5 0) d)) ∧ (∀ (J1 : IH), (FrE d (setF (setF (setF (setF I d 6 (min n ((K.2.1 (rf R d 0) : Nat) : Int))) d 7 0) d 9 0) d 5 0) J1) → (J1 d 7 = ((endS (bJ (setF (setF (setF (setF I d 6 (min n ((K.2.1 (rf R d 0) : Nat) : Int))) d 7 0) d 9 0) d 5 0) d) ((setF (setF (setF (setF I d 6 (min n ((K.2.1 (rf R d 0) : Nat) : Int))) d 7 0) d 9 0) d 5 0) d 7).toNat).1 : Int)) → (AtOK J1 d) → ((endS (bJ (setF (setF (setF (setF I d 6 (min n ((K.2.1 (rf R d 0) : Nat) : Int))) d 7 0) d 9 0) d 5 0) d) ((setF (setF (setF (setF I d 6 (min n ((K.2.1 (rf R d 0) : Nat) : Int))) d 7 0) d 9 0) d 5 0) d 7).toNat).2.1 = true → J1 d 8 = (endS (bJ (setF (setF (setF (setF I d 6 (min n ((K.2.1 (rf R d 0) : Nat) : Int))) d 7 0) d 9 0) d 5 0) d) ((setF (setF (setF (setF I d 6 (min n ((K.2.1 (rf R d 0) : Nat) : Int))) d 7 0) d 9 0) d 5 0) d 7).toNat).2.2) → (((endS (bJ (setF (setF (setF (setF I d 6 (min n ((K.2.1 (rf R d 0) : Nat) : Int))) d 7 0) d 9 0) d 5 0) d) ((setF (setF (setF (setF I d 6 (min n ((K.2.1 (rf R d 0) : Nat) : Int))) d 7 0) d 9 0) d 5 0) d 7).toNat).2.1 = true → (K.1 d = 9) ∧ (K.1 d = 9) ∧ (((J1 d 6) ≤ (J1 d 7) → ((K.1 d = 9) ∧ (DraftAt R K d ∧ ∃ cs, Done J1 d cs ∧ cs.length ≤ 5)) ∧ (∀ (L6 : LH), (∀ b j, b ≠ d + 5 → L6 b j = L b j) → (∀ cs, Done J1 d cs → ∀ s : Nat, s < 1536 → (inSet L6 (d + 5) s ↔ hldV cs (s : Int) ≠ J1 d 5)) → Q (some (aI (-1))) J1 L6 R K)) ∧ ((J1 d 7) < (J1 d 6) → ((K.1 d = 9) ∧ (DraftAt R K d ∧ AtOK J1 d ∧ J1 d 9 = 0)) ∧ (∀ (J9 : IH), (FrD d J1 J9) → (J9 d 7 = ((conS (bJ J1 d) (J1 d 6).toNat (J1 d 7).toNat).1 : Int)) → (AtOK J9 d) → ((conS (bJ J1 d) (J1 d 6).toNat (J1 d 7).toNat).2.1 = true → J9 d 5 = (conS (bJ J1 d) (J1 d 6).toNat (J1 d 7).toNat).2.2.1 ∧ Done J9 d (conS (bJ J1 d) (J1 d 6).toNat (J1 d 7).toNat).2.2.2) → (((conS (bJ J1 d) (J1 d 6).toNat (J1 d 7).toNat).2.1 = true → ((K.1 d = 9) ∧ (DraftAt R K d ∧ ∃ cs, Done J9 d cs ∧ cs.length ≤ 5)) ∧ (∀ (L14 : LH), (∀ b j, b ≠ d + 5 → L14 b j = L b j) → (∀ cs, Done J9 d cs → ∀ s : Nat, s < 1536 → (inSet L14 (d + 5) s ↔ hldV cs (s : Int) ≠ J9 d 5)) → Q (some (aI (-1))) J9 L14 R K)) ∧ (¬((conS (bJ J1 d) (J1 d 6).toNat (J1 d 7).toNat).2.1 = true) → (K.1 d = 9) ∧ Q (some (aI (J9 d 7))) J9 L R K)))))) ∧ (¬((endS (bJ (setF (setF (setF (setF I d 6 (min n ((K.2.1 (rf R d 0) : Nat) : Int))) d 7 0) d 9 0) d 5 0) d) ((setF (setF (setF (setF I d 6 (min n ((K.2.1 (rf R d 0) : Nat) : Int))) d 7 0) d 9 0) d 5 0) d 7).toNat).2.1 = true) → (K.1 d = 9) ∧ Q (some (aI (J1 d 7))) J1 L R K)))) : E sc 280 0 [some (aR (some d)), some (aI n)] [] I L R K Q :=
  e_aload_n mb_280 dX9_readTape_0 rfl (e_iload_n mb_280 dX9_readTape_1 rfl (e_aload_n mb_280 dX9_readTape_2 rfl (e_getr mb_280 dX9_readTape_3 mf_280.1 fs_36893 fk_9_0 h.1.1 h.1.2 (e_len mb_280 dX9_readTape_6 h.2.1 rfl (e_min mb_280 dX9_readTape_7 mf_280 cs_36896 rfl rfl (e_puti mb_280 dX9_readTape_10 mf_280.1 fs_36902 fk_9_6 (Or.inl ff_9_6) h.2.2.1 (e_aload_n mb_280 dX9_readTape_13 rfl (e_iconst mb_280 dX9_readTape_14 cv_iconst_0 (e_puti mb_280 dX9_readTape_15 mf_280.1 fs_36906 fk_9_7 (Or.inl ff_9_7) h.2.2.2.1 (e_aload_n mb_280 dX9_readTape_18 rfl (e_iconst mb_280 dX9_readTape_19 cv_iconst_0 (e_puti mb_280 dX9_readTape_20 mf_280.1 fs_36909 fk_9_9 (Or.inl ff_9_9) h.2.2.2.2.1 (e_aload_n mb_280 dX9_readTape_23 rfl (e_iconst mb_280 dX9_readTape_24 cv_iconst_0 (e_putb mb_280 dX9_readTape_25 mf_280.1 fs_36912 fk_9_5 (Or.inl ff_9_5) h.2.2.2.2.2.1 (Or.inl rfl) (e_aload_n mb_280 dX9_readTape_28 rfl (e_callV mb_280 dX9_readTape_29 mf_280 mf_282 cs_36916 rfl rfl rfl rfl h.2.2.2.2.2.2.1.1 rfl (v_282 hL h.2.2.2.2.2.2.1.2 (fun J1 hp2 hp3 hp4 hp5 => (show E _ _ _ _ [aI (b2i ((endS (bJ (setF (setF (setF (setF I d 6 (min n ((K.2.1 (rf R d 0) : Nat) : Int))) d 7 0) d 9 0) d 5 0) d) ((setF (setF (setF (setF I d 6 (min n ((K.2.1 (rf R d 0) : Nat) : Int))) d 7 0) d 9 0) d 5 0) d 7).toNat).2.1 = true))] _ _ _ _ _ from e_ifb_eq mb_280 dX9_readTape_32 rfl ⟨fun q1 => e_aload_n mb_280 dX9_readTape_35 rfl (e_getv mb_280 dX9_readTape_36 mf_280.1 fs_36906 (Or.inl fk_9_7) ((h.2.2.2.2.2.2.2 J1 hp2 hp3 hp4 hp5).1 q1).1 rfl (e_aload_n mb_280 dX9_readTape_39 rfl (e_getv mb_280 dX9_readTape_40 mf_280.1 fs_36902 (Or.inl fk_9_6) ((h.2.2.2.2.2.2.2 J1 hp2 hp3 hp4 hp5).1 q1).2.1 rfl (e_icmp mb_280 dX9_readTape_43 rfl (fun q2 => e_aload_n mb_280 dX9_readTape_58 rfl (e_callV mb_280 dX9_readTape_59 mf_280 mf_294 cs_36923 rfl rfl rfl rfl (((h.2.2.2.2.2.2.2 J1 hp2 hp3 hp4 hp5).1 q1).2.2.1 (cb_ge.1.mp q2)).1.1 rfl (v_294 hL (((h.2.2.2.2.2.2.2 J1 hp2 hp3 hp4 hp5).1 q1).2.2.1 (cb_ge.1.mp q2)).1.2 (fun L6 hp7 hp8 => (show E _ _ _ _ [] _ _ _ _ _ from e_iconst mb_280 dX9_readTape_62 cv_iconst_m1 (e_ireturn mb_280 dX9_readTape_63 ri_280 ((((h.2.2.2.2.2.2.2 J1 hp2 hp3 hp4 hp5).1 q1).2.2.1 (cb_ge.1.mp q2)).2 L6 hp7 hp8))))))) (fun q2 => e_aload_n mb_280 dX9_readTape_46 rfl (e_callV mb_280 dX9_readTape_47 mf_280 mf_285 cs_36920 rfl rfl rfl rfl (((h.2.2.2.2.2.2.2 J1 hp2 hp3 hp4 hp5).1 q1).2.2.2 (cb_ge.2.mp q2)).1.1 rfl (v_285 hL (((h.2.2.2.2.2.2.2 J1 hp2 hp3 hp4 hp5).1 q1).2.2.2 (cb_ge.2.mp q2)).1.2 (fun J9 hp10 hp11 hp12 hp13 => (show E _ _ _ _ [aI (b2i ((conS (bJ J1 d) (J1 d 6).toNat (J1 d 7).toNat).2.1 = true))] _ _ _ _ _ from e_ifb_ne mb_280 dX9_readTape_50 rfl ⟨fun q3 => e_aload_n mb_280 dX9_readTape_58 rfl (e_callV mb_280 dX9_readTape_59 mf_280 mf_294 cs_36923 rfl rfl rfl rfl (((((h.2.2.2.2.2.2.2 J1 hp2 hp3 hp4 hp5).1 q1).2.2.2 (cb_ge.2.mp q2)).2 J9 hp10 hp11 hp12 hp13).1 q3).1.1 rfl (v_294 hL (((((h.2.2.2.2.2.2.2 J1 hp2 hp3 hp4 hp5).1 q1).2.2.2 (cb_ge.2.mp q2)).2 J9 hp10 hp11 hp12 hp13).1 q3).1.2 (fun L14 hp15 hp16 => (show E _ _ _ _ [] _ _ _ _ _ from e_iconst mb_280 dX9_readTape_62 cv_iconst_m1 (e_ireturn mb_280 dX9_readTape_63 ri_280 ((((((h.2.2.2.2.2.2.2 J1 hp2 hp3 hp4 hp5).1 q1).2.2.2 (cb_ge.2.mp q2)).2 J9 hp10 hp11 hp12 hp13).1 q3).2 L14 hp15 hp16)))))), fun q3 => e_aload_n mb_280 dX9_readTape_53 rfl (e_getv mb_280 dX9_readTape_54 mf_280.1 fs_36906 (Or.inl fk_9_7) (((((h.2.2.2.2.2.2.2 J1 hp2 hp3 hp4 hp5).1 q1).2.2.2 (cb_ge.2.mp q2)).2 J9 hp10 hp11 hp12 hp13).2 q3).1 rfl (e_ireturn mb_280 dX9_readTape_57 ri_280 (((((h.2.2.2.2.2.2.2 J1 hp2 hp3 hp4 hp5).1 q1).2.2.2 (cb_ge.2.mp q2)).2 J9 hp10 hp11 hp12 hp13).2 q3).2))⟩))))))))), fun q1 => e_aload_n mb_280 dX9_readTape_53 rfl (e_getv mb_280 dX9_readTape_54 mf_280.1 fs_36906 (Or.inl fk_9_7) ((h.2.2.2.2.2.2.2 J1 hp2 hp3 hp4 hp5).2 q1).1 rfl (e_ireturn mb_280 dX9_readTape_57 ri_280 ((h.2.2.2.2.2.2.2 J1 hp2 hp3 hp4 hp5).2 q1).2))⟩))))))))))))))))))))
theorem v_280 {sc : Nat × (Nat → Int)} {I : IH} {L : LH} {R : RH} {K : KH} {Q : AQ} {d : Nat} {n : Int} (hL : Lay R K) (hp : DraftAt R K d ∧ 0 ≤ n) (h : ∀ (J : IH) (L1 : LH), FrC d I J → (∀ b j, b ≠ d + 5 → L1 b j = L b j) → ((textS (bT I n) (min n 90).toNat).2.1 = true → FitC J L1 d (textS (bT I n) (min n 90).toNat)) → ((textS (bT I n) (min n 90).toNat).2.1 = false → (textS (bT I n) (min n 90).toNat).1 ≤ 90) → Q (some (aI (fltV (textS (bT I n) (min n 90).toNat)))) J L1 R K) : E sc 280 0 [some (aR (some d)), some (aI n)] [] I L R K Q := by
  obtain ⟨hd, hn⟩ := hp
  have hne := dr_ne hd
  have r0 : rf R d 0 = 1 := rf_eq hd.2.1
  have k1 : K.1 1 = 100 := lk_1 hL
  have l1 : ((K.2.1 1 : Nat) : Int) = 90 := by rw [ll_1 hL]; rfl
  refine w_280_0 hL ?_
  rw [r0, l1]
  have m0 : 0 ≤ min n 90 ∧ min n 90 ≤ 90 := by omega
  generalize hH : setF (setF (setF (setF I d 6 (min n 90)) d 7 0) d 9 0) d 5 0 = H at *
  have z6 : H d 6 = min n 90 := by rw [← hH, setF_n (by omega), setF_n (by omega), setF_n (by omega)]; exact setF_s
  have z7 : H d 7 = 0 := by rw [← hH, setF_n (by omega), setF_n (by omega)]; exact setF_s
  have z9 : H d 9 = 0 := by rw [← hH, setF_n (by omega)]; exact setF_s
  have z5 : H d 5 = 0 := by rw [← hH]; exact setF_s
  have fH : ∀ a j : Nat, ¬ (a = d ∧ 5 ≤ j ∧ j ≤ 9) → H a j = I a j := fun a j q => by rw [← hH, setF_n (by omega), setF_n (by omega), setF_n (by omega), setF_n (by omega)]
  have eb : bJ H d = bT I n := by
    funext p
    unfold bJ bT
    rw [z6, fH 1 p (by omega)]
  have aH : AtOK H d := ⟨by omega, by omega, by omega⟩
  have le : ((min n 90).toNat : Int) = min n 90 := by omega
  rw [eb, z7, show (0 : Int).toNat = 0 from rfl]
  generalize (min n 90).toNat = len at *
  generalize bT I n = b at *
  refine ⟨⟨hd.1, hd.2.1⟩, by omega, hd.1, hd.1, hd.1, hd.1, ⟨hd.1, hd, aH⟩, fun J1 f1 t1 a1 c1 => ⟨fun qe => ⟨hd.1, hd.1, fun ge => ?_, fun lt => ?_⟩, fun qe => ⟨hd.1, ?_⟩⟩⟩
  · have ex : textS b len = ((endS b 0).1, true, (endS b 0).2.2, 0, []) := by unfold textS; rw [if_pos qe, if_pos (by rw [f1 d 6 (by omega)] at ge; omega)]
    rw [ex] at h
    have d0 : Done J1 d [] := ⟨by rw [f1 d 9 (by omega)]; exact z9, fun k hk => absurd hk (Nat.not_lt_zero _)⟩
    refine ⟨⟨hd.1, hd, [], d0, Nat.zero_le _⟩, fun L1 g1 g2 => h J1 L1 (fun a j q _ _ _ => (f1 a j (by omega)).trans (fH a j q)) g1 (fun _ => ⟨c1 qe, by rw [f1 d 9 (by omega)]; exact z9, Nat.zero_le _, fun k hk => absurd hk (Nat.not_lt_zero _), fun s hs => ?_⟩) (fun g => by cases g)⟩
    have := g2 [] d0 s hs
    rw [f1 d 5 (by omega), z5] at this
    exact this
  · have e6 : J1 d 6 = H d 6 := f1 d 6 (by omega)
    have ex : textS b len = ((conS b len (endS b 0).1).1, (conS b len (endS b 0).1).2.1, (endS b 0).2.2, (conS b len (endS b 0).1).2.2.1, (conS b len (endS b 0).1).2.2.2) := by unfold textS; rw [if_pos qe, if_neg (by omega)]
    rw [ex] at h
    have e1 : bJ J1 d = b := by rw [bJ_fre hne.1 f1, eb]
    rw [e1, show (J1 d 6).toNat = len by omega, show (J1 d 7).toNat = (endS b 0).1 by omega]
    have c9 : J1 d 9 = 0 := by rw [f1 d 9 (by omega)]; exact z9
    have lc := conS_len (b := b) (len := len) (p := (endS b 0).1)
    refine ⟨⟨hd.1, hd, a1, c9⟩, fun J2 f2 t2 a2 c2 => ⟨fun qc => ?_, fun qc => ?_⟩⟩
    · have fr : FrC d I J2 := fun a j q q1 q2 q3 => (f2 a j q1 q2 q3 (by omega)).trans ((f1 a j (by omega)).trans (fH a j q))
      have dn := (c2 qc).2
      refine ⟨⟨hd.1, hd, _, dn, lc⟩, fun L1 g1 g2 => ?_⟩
      have := h J2 L1 fr g1 (fun _ => ⟨by rw [f2 d 8 (by omega) (by omega) (by omega) (by omega)]; exact c1 qe, dn.1, lc, fun k hk => (dn.2 k hk).2, fun s hs => by rw [g2 _ dn s hs, (c2 qc).1]⟩) (fun g => by have g2 : true = false := qc.symm.trans g; cases g2)
      unfold fltV at this
      rw [if_pos qc] at this
      exact this
    · have fr : FrC d I J2 := fun a j q q1 q2 q3 => (f2 a j q1 q2 q3 (by omega)).trans ((f1 a j (by omega)).trans (fH a j q))
      have := h J2 L fr (fun _ _ _ => rfl) (fun g => absurd g qc) (fun _ => by have := a2.2.1; have := a2.2.2; show (conS b len (endS b 0).1).1 ≤ 90; omega)
      unfold fltV at this
      rw [if_neg qc] at this
      refine ⟨hd.1, ?_⟩
      rw [t2]
      exact this
  · have ex : textS b len = ((endS b 0).1, false, 0, 0, []) := by unfold textS; rw [if_neg qe]
    rw [ex] at h
    rw [t1]
    exact h J1 L (fun a j q _ _ _ => (f1 a j (by omega)).trans (fH a j q)) (fun _ _ _ => rfl) (fun g => by cases g) (fun _ => by have := a1.2.1; have := a1.2.2; show (endS b 0).1 ≤ 90; omega)
