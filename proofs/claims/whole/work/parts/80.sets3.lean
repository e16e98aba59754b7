/-! sets: size, lowest, the FIELDS that show -/
theorem cnt_pcN : ∀ (k n : Nat), cnt (fun j => n.testBit j = true) k = pcN k n := by
  intro k
  induction k with
  | zero => intro n; rfl
  | succ k ih =>
    intro n
    have h1 := ih (n / 2)
    have h2 : ∀ m, cnt (fun j => n.testBit j = true) (m + 1) = (if n.testBit 0 = true then 1 else 0) + cnt (fun j => (n / 2).testBit j = true) m := by
      intro m
      induction m with
      | zero => show (if n.testBit 0 = true then 0 + 1 else 0) = _; split <;> rfl
      | succ m ihm =>
        have e : n.testBit (m + 1) = (n / 2).testBit m := Nat.testBit_succ n m
        rw [cnt, ihm, e]
        show _ = _ + (if (n / 2).testBit m = true then cnt (fun j => (n / 2).testBit j = true) m + 1 else cnt (fun j => (n / 2).testBit j = true) m)
        split <;> omega
    rw [h2, h1, pcN, Nat.testBit_zero]
    by_cases h : n % 2 = 1
    · rw [if_pos (by simpa using h), h]
    · rw [if_neg (by simpa using h), show n % 2 = 0 by omega]
theorem cnt_add {p : Nat → Prop} [DecidablePred p] (a : Nat) : ∀ b, cnt p (a + b) = cnt p a + cnt (fun j => p (a + j)) b := by
  intro b
  induction b with
  | zero => rfl
  | succ b ih =>
    rw [← Nat.add_assoc, cnt, ih]
    show _ = _ + (if p (a + b) then cnt (fun j => p (a + j)) b + 1 else cnt (fun j => p (a + j)) b)
    split <;> omega
theorem w_263_0 {sc : Nat × (Nat → Int)} {I : IH} {L : LH} {R : RH} {K : KH} {Q : AQ} {t : Nat} (hL : Lay R K) (h : E sc 263 4 [some (aR (some t)), some (aI 0), some (aI 0)] [] I L R K Q) : E sc 263 0 [some (aR (some t)), none, none] [] I L R K Q :=
  e_iconst mb_263 dX7_size_0 cv_iconst_0 (e_istore_n (l1 := [some (aR (some t)), some (aI 0), none]) mb_263 dX7_size_1 rfl (e_iconst mb_263 dX7_size_2 cv_iconst_0 (e_istore_n (l1 := [some (aR (some t)), some (aI 0), some (aI 0)]) mb_263 dX7_size_3 rfl h)))
theorem w_263_4 {sc : Nat × (Nat → Int)} {I : IH} {L : LH} {R : RH} {K : KH} {Q : AQ} {x1 x2 : Int} {r0 : Nat} (hL : Lay R K) (h : (K.1 r0 = 7 ∧ R r0 0 = some (rf R r0 0)) ∧ (100 ≤ K.1 (rf R r0 0) ∧ K.1 (rf R r0 0) ≤ 105) ∧ ((((K.2.1 (rf R r0 0) : Nat) : Int) ≤ x2 → Q (some (aI x1)) I L R K) ∧ (x2 < ((K.2.1 (rf R r0 0) : Nat) : Int) → (K.1 r0 = 7 ∧ R r0 0 = some (rf R r0 0)) ∧ ((K.1 (rf R r0 0) = 102) ∧ ((0 : Int) ≤ x2 ∧ x2 < ((K.2.1 (rf R r0 0) : Nat) : Int))) ∧ ((-2147483648 : Int) ≤ x1 + ((pcN 64 (L (rf R r0 0) x2.toNat).toBitVec.toNat : Nat) : Int) ∧ x1 + ((pcN 64 (L (rf R r0 0) x2.toNat).toBitVec.toNat : Nat) : Int) < (2147483648 : Int)) ∧ ((-2147483648 : Int) ≤ x2 + 1 ∧ x2 + 1 < (2147483648 : Int)) ∧ E sc 263 4 [some (aR (some r0)), some (aI (x1 + ((pcN 64 (L (rf R r0 0) x2.toNat).toBitVec.toNat : Nat) : Int))), some (aI (x2 + 1))] [] I L R K Q))) : E sc 263 4 [some (aR (some r0)), some (aI x1), some (aI x2)] [] I L R K Q :=
  e_iload_n mb_263 dX7_size_4 rfl (e_aload_n mb_263 dX7_size_5 rfl (e_getr mb_263 dX7_size_6 mf_263.1 fs_28681 fk_7_0 h.1.1 h.1.2 (e_len mb_263 dX7_size_9 h.2.1 rfl (e_icmp mb_263 dX7_size_10 rfl (fun q1 => e_iload_n mb_263 dX7_size_31 rfl (e_ireturn mb_263 dX7_size_32 ri_263 (h.2.2.1 (cb_ge.1.mp q1)))) (fun q1 => e_iload_n mb_263 dX7_size_13 rfl (e_aload_n mb_263 dX7_size_14 rfl (e_getr mb_263 dX7_size_15 mf_263.1 fs_28681 fk_7_0 (h.2.2.2 (cb_ge.2.mp q1)).1.1 (h.2.2.2 (cb_ge.2.mp q1)).1.2 (e_iload_n mb_263 dX7_size_18 rfl (e_laload mb_263 dX7_size_19 (h.2.2.2 (cb_ge.2.mp q1)).2.1.1 rfl (h.2.2.2 (cb_ge.2.mp q1)).2.1.2 (e_callS mb_263 dX7_size_20 mf_263 mf_316 cs_28693 rfl rfl rfl rfl (v_316 hL (show E _ _ _ _ (_ :: _) _ _ _ _ _ from e_iadd mb_263 dX7_size_23 (h.2.2.2 (cb_ge.2.mp q1)).2.2.1 (e_istore_n (l1 := [some (aR (some r0)), some (aI (x1 + ((pcN 64 (L (rf R r0 0) x2.toNat).toBitVec.toNat : Nat) : Int))), some (aI x2)]) mb_263 dX7_size_24 rfl (e_iinc (l1 := [some (aR (some r0)), some (aI (x1 + ((pcN 64 (L (rf R r0 0) x2.toNat).toBitVec.toNat : Nat) : Int))), some (aI (x2 + 1))]) mb_263 dX7_size_25 rfl (h.2.2.2 (cb_ge.2.mp q1)).2.2.2.1 rfl (e_goto mb_263 dX7_size_28 rfl ((h.2.2.2 (cb_ge.2.mp q1)).2.2.2.2))))))))))))))))
theorem v_263 {sc : Nat × (Nat → Int)} {I : IH} {L : LH} {R : RH} {K : KH} {Q : AQ} {t : Nat} (hL : Lay R K) (hs : SetAt R K t) (h : Q (some (aI ((cnt (fun s => inSet L (rf R t 0) s) 1536 : Nat) : Int))) I L R K) : E sc 263 0 [some (aR (some t)), none, none] [] I L R K Q := by
  have hk := hs.2.2.1
  have hl := hs.2.2.2
  have step : ∀ m, m < 24 → cnt (fun s => inSet L (rf R t 0) s) (64 * (m + 1)) = cnt (fun s => inSet L (rf R t 0) s) (64 * m) + pcN 64 (L (rf R t 0) m).toBitVec.toNat := fun m hm => by
    rw [show 64 * (m + 1) = 64 * m + 64 by omega, cnt_add, ← cnt_pcN]
    congr 1
    refine cnt_congr 64 (fun j hj => ?_)
    show (L (rf R t 0) ((64 * m + j) / 64)).toBitVec.getLsbD ((64 * m + j) % 64) = true ↔ _
    rw [show (64 * m + j) / 64 = m by omega, show (64 * m + j) % 64 = j by omega]
    exact Iff.rfl
  have key : (fun (m : Nat) => ∀ (x1 x2 : Int), x1 = ((cnt (fun s => inSet L (rf R t 0) s) (64 * m) : Nat) : Int) → x2 = (m : Int) → E sc 263 4 [some (aR (some t)), some (aI x1), some (aI x2)] [] I L R K Q) 0 := by
    refine loop_up (C := fun (m : Nat) => ∀ (x1 x2 : Int), x1 = ((cnt (fun s => inSet L (rf R t 0) s) (64 * m) : Nat) : Int) → x2 = (m : Int) → E sc 263 4 [some (aR (some t)), some (aI x1), some (aI x2)] [] I L R K Q) 24 ?_ ?_
    · intro m hm hc x1 x2 h1 h2
      subst h2
      have hst := step m hm
      have hle := cnt_le (p := fun s => inSet L (rf R t 0) s) (64 * (m + 1))
      refine w_263_4 hL ⟨⟨hs.1, hs.2.1⟩, ⟨by omega, by omega⟩, fun q => by omega, fun q => ⟨⟨hs.1, hs.2.1⟩, ⟨hk, by omega⟩, ?_⟩⟩
      rw [Int.toNat_natCast]
      exact ⟨by omega, by omega, hc _ _ (by omega) (by omega)⟩
    · intro x1 x2 h1 h2
      exact w_263_4 hL ⟨⟨hs.1, hs.2.1⟩, ⟨by omega, by omega⟩, fun q => by rw [h1]; exact h, fun q => by omega⟩
  exact w_263_0 hL (key _ _ rfl rfl)
theorem w_264_0 {sc : Nat × (Nat → Int)} {I : IH} {L : LH} {R : RH} {K : KH} {Q : AQ} {t : Nat} (hL : Lay R K) (h : E sc 264 2 [some (aR (some t)), some (aI 0)] [] I L R K Q) : E sc 264 0 [some (aR (some t)), none] [] I L R K Q :=
  e_iconst mb_264 dX7_lowest_0 cv_iconst_0 (e_istore_n (l1 := [some (aR (some t)), some (aI 0)]) mb_264 dX7_lowest_1 rfl h)
theorem w_264_2 {sc : Nat × (Nat → Int)} {I : IH} {L : LH} {R : RH} {K : KH} {Q : AQ} {x1 : Int} {r0 : Nat} (hL : Lay R K) (h : ((1536 ≤ x1 → Q (some (aI (-1))) I L R K) ∧ (x1 < 1536 → (K.1 r0 = 7 ∧ (SetAt R K r0)) ∧ ((0 ≤ x1 ∧ x1 < 1536 ∧ inSet L (rf R r0 0) x1.toNat → Q (some (aI x1)) I L R K) ∧ (¬(0 ≤ x1 ∧ x1 < 1536 ∧ inSet L (rf R r0 0) x1.toNat) → ((-2147483648 : Int) ≤ x1 + 1 ∧ x1 + 1 < (2147483648 : Int)) ∧ E sc 264 2 [some (aR (some r0)), some (aI (x1 + 1))] [] I L R K Q))))) : E sc 264 2 [some (aR (some r0)), some (aI x1)] [] I L R K Q :=
  e_iload_n mb_264 dX7_lowest_2 rfl (e_sipush mb_264 dX7_lowest_3 cv_sipush_1536 (e_icmp mb_264 dX7_lowest_6 rfl (fun q1 => e_iconst mb_264 dX7_lowest_25 cv_iconst_m1 (e_ireturn mb_264 dX7_lowest_26 ri_264 (h.1 (cb_ge.1.mp q1)))) (fun q1 => e_aload_n mb_264 dX7_lowest_9 rfl (e_iload_n mb_264 dX7_lowest_10 rfl (e_callV mb_264 dX7_lowest_11 mf_264 mf_262 cs_28699 rfl rfl rfl rfl (h.2 (cb_ge.2.mp q1)).1.1 rfl (v_262 hL (h.2 (cb_ge.2.mp q1)).1.2 (show E _ _ _ _ (_ :: _) _ _ _ _ _ from e_ifb_eq mb_264 dX7_lowest_14 rfl ⟨fun q2 => e_iload_n mb_264 dX7_lowest_17 rfl (e_ireturn mb_264 dX7_lowest_18 ri_264 ((h.2 (cb_ge.2.mp q1)).2.1 q2)), fun q2 => e_iinc (l1 := [some (aR (some r0)), some (aI (x1 + 1))]) mb_264 dX7_lowest_19 rfl ((h.2 (cb_ge.2.mp q1)).2.2 q2).1 rfl (e_goto mb_264 dX7_lowest_22 rfl (((h.2 (cb_ge.2.mp q1)).2.2 q2).2))⟩)))))))
theorem v_264 {sc : Nat × (Nat → Int)} {I : IH} {L : LH} {R : RH} {K : KH} {Q : AQ} {t : Nat} (hL : Lay R K) (hs : SetAt R K t) (h : Q (some (aI (fstF (fun s => inSet L (rf R t 0) s) 1536))) I L R K) : E sc 264 0 [some (aR (some t)), none] [] I L R K Q := by
  rw [fstF_eq] at h
  have key : (fun (m : Nat) => ∀ (x1 : Int), Q (some (aI (ffrom (fun s => inSet L (rf R t 0) s) (-1) 1536 (1536 - m)))) I L R K → x1 = (m : Int) → E sc 264 2 [some (aR (some t)), some (aI x1)] [] I L R K Q) 0 := by
    refine loop_up (C := fun (m : Nat) => ∀ (x1 : Int), Q (some (aI (ffrom (fun s => inSet L (rf R t 0) s) (-1) 1536 (1536 - m)))) I L R K → x1 = (m : Int) → E sc 264 2 [some (aR (some t)), some (aI x1)] [] I L R K Q) 1536 ?_ ?_
    · intro m hm hc x1 hQ h1
      subst h1
      rw [ffrom_step hm] at hQ
      refine w_264_2 hL ⟨fun q => by omega, fun q => ⟨⟨hs.1, hs⟩, fun q2 => ?_, fun q2 => ⟨by omega, hc _ ?_ (by omega)⟩⟩⟩
      · rw [Int.toNat_natCast] at q2
        rw [if_pos q2.2.2] at hQ; exact hQ
      · rw [Int.toNat_natCast] at q2
        rw [if_neg (fun q3 => q2 ⟨by omega, by omega, q3⟩)] at hQ; exact hQ
    · intro x1 hQ h1
      rw [Nat.sub_self] at hQ
      exact w_264_2 hL ⟨fun q => hQ, fun q => by omega⟩
  exact w_264_0 hL (key _ (by rw [Nat.sub_zero]; exact h) rfl)
/-- the FIELDS, as bits, in which two SORTS differ -/
def mskF (a s : Int) : Nat → Nat
  | 0 => 0
  | f + 1 => mskF a s f + (if fldO a (f : Int) ≠ fldO s (f : Int) then 2 ^ f else 0)
theorem msk_lt (a s : Int) : ∀ f, mskF a s f < 2 ^ f := by
  intro f
  induction f with
  | zero => show 0 < 1; omega
  | succ f ih =>
    rw [mskF, Nat.pow_succ]
    split <;> omega
theorem msk_bit (a s : Int) : ∀ f i, i < f → ((mskF a s f).testBit i = true ↔ fldO a (i : Int) ≠ fldO s (i : Int)) := by
  intro f
  induction f with
  | zero => intro i hi; omega
  | succ f ih =>
    intro i hi
    have hlt := msk_lt a s f
    rw [mskF]
    by_cases hd : fldO a (f : Int) ≠ fldO s (f : Int)
    · rw [if_pos hd]
      rw [Nat.add_comm, show 2 ^ f + mskF a s f = 2 ^ f * 1 + mskF a s f by omega, Nat.testBit_two_pow_mul_add 1 hlt]
      by_cases e : i < f
      · rw [if_pos e]; exact ih i e
      · rw [if_neg e, show i = f by omega, Nat.sub_self]
        exact ⟨fun _ => hd, fun _ => rfl⟩
    · rw [if_neg hd, Nat.add_zero]
      by_cases e : i < f
      · exact ih i e
      · rw [show i = f by omega, Nat.testBit_lt_two_pow hlt]
        exact ⟨fun q => absurd q Bool.false_ne_true, fun q => absurd q hd⟩
theorem ior_pow : ∀ f : Nat, f < 6 → ∀ x : Nat, x < 2 ^ f → ior (x : Int) (ishl 1 (f : Int)) = ((x + 2 ^ f : Nat) : Int) := by decide +kernel
theorem w_266_0 {sc : Nat × (Nat → Int)} {I : IH} {L : LH} {R : RH} {K : KH} {Q : AQ} {a0 a1 : Int} (hL : Lay R K) (h : E sc 266 4 [some (aI a0), some (aI a1), some (aI 0), some (aI 0)] [] I L R K Q) : E sc 266 0 [some (aI a0), some (aI a1), none, none] [] I L R K Q :=
  e_iconst mb_266 dX7_unlikeFields_0 cv_iconst_0 (e_istore_n (l1 := [some (aI a0), some (aI a1), some (aI 0), none]) mb_266 dX7_unlikeFields_1 rfl (e_iconst mb_266 dX7_unlikeFields_2 cv_iconst_0 (e_istore_n (l1 := [some (aI a0), some (aI a1), some (aI 0), some (aI 0)]) mb_266 dX7_unlikeFields_3 rfl h)))
theorem w_266_4 {sc : Nat × (Nat → Int)} {I : IH} {L : LH} {R : RH} {K : KH} {Q : AQ} {x0 x1 x2 x3 : Int} (hL : Lay R K) (h : ((6 ≤ x3 → Q (some (aI x2)) I L R K) ∧ (x3 < 6 → ((0 ≤ x0 ∧ x0 < 2147483648)) ∧ ((0 ≤ x1 ∧ x1 < 2147483648)) ∧ (((fldO x0 x3) = (fldO x1 x3) → ((-2147483648 : Int) ≤ x3 + 1 ∧ x3 + 1 < (2147483648 : Int)) ∧ E sc 266 4 [some (aI x0), some (aI x1), some (aI x2), some (aI (x3 + 1))] [] I L R K Q) ∧ ((fldO x0 x3) ≠ (fldO x1 x3) → ((-2147483648 : Int) ≤ x3 + 1 ∧ x3 + 1 < (2147483648 : Int)) ∧ E sc 266 4 [some (aI x0), some (aI x1), some (aI (ior x2 (ishl 1 x3))), some (aI (x3 + 1))] [] I L R K Q))))) : E sc 266 4 [some (aI x0), some (aI x1), some (aI x2), some (aI x3)] [] I L R K Q :=
  e_iload_n mb_266 dX7_unlikeFields_4 rfl (e_bipush mb_266 dX7_unlikeFields_5 cv_bipush_6 (e_icmp mb_266 dX7_unlikeFields_7 rfl (fun q1 => e_iload_n mb_266 dX7_unlikeFields_35 rfl (e_ireturn mb_266 dX7_unlikeFields_36 ri_266 (h.1 (cb_ge.1.mp q1)))) (fun q1 => e_iload_n mb_266 dX7_unlikeFields_10 rfl (e_iload_n mb_266 dX7_unlikeFields_11 rfl (e_callS mb_266 dX7_unlikeFields_12 mf_266 mf_59 cs_28720 rfl rfl rfl rfl (v_59 hL (h.2 (cb_ge.2.mp q1)).1 (show E _ _ _ _ (_ :: _) _ _ _ _ _ from e_iload_n mb_266 dX7_unlikeFields_15 rfl (e_iload_n mb_266 dX7_unlikeFields_16 rfl (e_callS mb_266 dX7_unlikeFields_17 mf_266 mf_59 cs_28720 rfl rfl rfl rfl (v_59 hL (h.2 (cb_ge.2.mp q1)).2.1 (show E _ _ _ _ (_ :: _) _ _ _ _ _ from e_icmp mb_266 dX7_unlikeFields_20 rfl (fun q2 => e_iinc (l1 := [some (aI x0), some (aI x1), some (aI x2), some (aI (x3 + 1))]) mb_266 dX7_unlikeFields_29 rfl ((h.2 (cb_ge.2.mp q1)).2.2.1 (cb_eq.1.mp q2)).1 rfl (e_goto mb_266 dX7_unlikeFields_32 rfl (((h.2 (cb_ge.2.mp q1)).2.2.1 (cb_eq.1.mp q2)).2))) (fun q2 => e_iload_n mb_266 dX7_unlikeFields_23 rfl (e_iconst mb_266 dX7_unlikeFields_24 cv_iconst_1 (e_iload_n mb_266 dX7_unlikeFields_25 rfl (e_ishl mb_266 dX7_unlikeFields_26 (e_ior mb_266 dX7_unlikeFields_27 (e_istore_n (l1 := [some (aI x0), some (aI x1), some (aI (ior x2 (ishl 1 x3))), some (aI x3)]) mb_266 dX7_unlikeFields_28 rfl (e_iinc (l1 := [some (aI x0), some (aI x1), some (aI (ior x2 (ishl 1 x3))), some (aI (x3 + 1))]) mb_266 dX7_unlikeFields_29 rfl ((h.2 (cb_ge.2.mp q1)).2.2.2 (cb_eq.2.mp q2)).1 rfl (e_goto mb_266 dX7_unlikeFields_32 rfl (((h.2 (cb_ge.2.mp q1)).2.2.2 (cb_eq.2.mp q2)).2))))))))))))))))))))
theorem v_266 {sc : Nat × (Nat → Int)} {I : IH} {L : LH} {R : RH} {K : KH} {Q : AQ} {a0 a1 : Int} (hL : Lay R K) (p0 : 0 ≤ a0 ∧ a0 < 1536) (p1 : 0 ≤ a1 ∧ a1 < 1536) (h : Q (some (aI ((mskF a0 a1 6 : Nat) : Int))) I L R K) : E sc 266 0 [some (aI a0), some (aI a1), none, none] [] I L R K Q := by
  have key : (fun (m : Nat) => ∀ (x2 x3 : Int), x2 = ((mskF a0 a1 m : Nat) : Int) → x3 = (m : Int) → E sc 266 4 [some (aI a0), some (aI a1), some (aI x2), some (aI x3)] [] I L R K Q) 0 := by
    refine loop_up (C := fun (m : Nat) => ∀ (x2 x3 : Int), x2 = ((mskF a0 a1 m : Nat) : Int) → x3 = (m : Int) → E sc 266 4 [some (aI a0), some (aI a1), some (aI x2), some (aI x3)] [] I L R K Q) 6 ?_ ?_
    · intro m hm hc x2 x3 h2 h3
      subst h3
      have e : mskF a0 a1 (m + 1) = mskF a0 a1 m + (if fldO a0 (m : Int) ≠ fldO a1 (m : Int) then 2 ^ m else 0) := rfl
      refine w_266_4 hL ⟨fun q => by omega, fun q => ⟨by omega, by omega, fun q2 => ⟨by omega, hc _ _ ?_ (by omega)⟩, fun q2 => ⟨by omega, hc _ _ ?_ (by omega)⟩⟩⟩
      · rw [e, if_neg (fun q3 => q3 q2), h2]; rfl
      · rw [e, if_pos q2, h2, ior_pow m hm _ (msk_lt a0 a1 m)]
    · intro x2 x3 h2 h3
      exact w_266_4 hL ⟨fun q => by rw [h2]; exact h, fun q => by omega⟩
  exact w_266_0 hL (key _ _ rfl rfl)
abbrev meetP (l : Int64) (x : Nat) : Prop := ∀ m, m < 64 → (l.toBitVec.getLsbD m = true → m &&& x ≠ 0)
theorem lbit0 {w : Int64} {m : Nat} (hm : m < 64) : (lg_cmp ((w.toUInt64 >>> ((Int32.ofInt (m : Int)).toInt64.toUInt64 &&& Int64.toUInt64 63)).toInt64 &&& (Int64.ofNat ((1 : _root_.Fin 2) : Nat))) (Int64.ofNat ((0 : _root_.Fin 2) : Nat))).toInt = 0 ↔ w.toBitVec.getLsbD m = false := by
  rw [lg0, ofi_nat, wb_cu _ hm]
  exact ts_bit hm (by rw [UInt64.toNat_ofNat']; omega)
theorem w_267_0 {sc : Nat × (Nat → Int)} {I : IH} {L : LH} {R : RH} {K : KH} {Q : AQ} {a0 : Int} {b1 : Int64} (hL : Lay R K) (h : E sc 267 2 [some (aI a0), some (aL b1), none, some (aI 0)] [] I L R K Q) : E sc 267 0 [some (aI a0), some (aL b1), none, none] [] I L R K Q :=
  e_iconst mb_267 dX7_meetsAll_0 cv_iconst_0 (e_istore_n (l1 := [some (aI a0), some (aL b1), none, some (aI 0)]) mb_267 dX7_meetsAll_1 rfl h)
theorem w_267_2 {sc : Nat × (Nat → Int)} {I : IH} {L : LH} {R : RH} {K : KH} {Q : AQ} {x0 x3 : Int} {l1 : Int64} (hL : Lay R K) (h : ((63 < x3 → Q (some (aI 1)) I L R K) ∧ (x3 ≤ 63 → ((((lg_cmp (((l1.toUInt64 >>> ((Int32.ofInt x3).toInt64.toUInt64 &&& Int64.toUInt64 63)).toInt64) &&& (Int64.ofNat ((1 : _root_.Fin 2) : Nat))) (Int64.ofNat ((0 : _root_.Fin 2) : Nat))).toInt) = 0 → ((-2147483648 : Int) ≤ x3 + 1 ∧ x3 + 1 < (2147483648 : Int)) ∧ E sc 267 2 [some (aI x0), some (aL l1), none, some (aI (x3 + 1))] [] I L R K Q) ∧ (((lg_cmp (((l1.toUInt64 >>> ((Int32.ofInt x3).toInt64.toUInt64 &&& Int64.toUInt64 63)).toInt64) &&& (Int64.ofNat ((1 : _root_.Fin 2) : Nat))) (Int64.ofNat ((0 : _root_.Fin 2) : Nat))).toInt) ≠ 0 → (((iand x3 x0) ≠ 0 → ((-2147483648 : Int) ≤ x3 + 1 ∧ x3 + 1 < (2147483648 : Int)) ∧ E sc 267 2 [some (aI x0), some (aL l1), none, some (aI (x3 + 1))] [] I L R K Q) ∧ ((iand x3 x0) = 0 → Q (some (aI 0)) I L R K))))))) : E sc 267 2 [some (aI x0), some (aL l1), none, some (aI x3)] [] I L R K Q :=
  e_iload_n mb_267 dX7_meetsAll_2 rfl (e_bipush mb_267 dX7_meetsAll_3 cv_bipush_63 (e_icmp mb_267 dX7_meetsAll_5 rfl (fun q1 => e_iconst mb_267 dX7_meetsAll_32 cv_iconst_1 (e_ireturn mb_267 dX7_meetsAll_33 (ri_267 (Or.inr rfl)) (h.1 (cb_gt.1.mp q1)))) (fun q1 => e_lload_n mb_267 dX7_meetsAll_8 rfl (e_iload_n mb_267 dX7_meetsAll_9 rfl (e_lushr mb_267 dX7_meetsAll_10 (e_lconst mb_267 dX7_meetsAll_11 (e_land mb_267 dX7_meetsAll_12 (e_lconst mb_267 dX7_meetsAll_13 (e_lcmp mb_267 dX7_meetsAll_14 (e_if mb_267 dX7_meetsAll_15 rfl (fun q2 => e_iinc (l1 := [some (aI x0), some (aL l1), none, some (aI (x3 + 1))]) mb_267 dX7_meetsAll_26 rfl ((h.2 (cb_gt.2.mp q1)).1 (cb_eq.1.mp q2)).1 rfl (e_goto mb_267 dX7_meetsAll_29 rfl (((h.2 (cb_gt.2.mp q1)).1 (cb_eq.1.mp q2)).2))) (fun q2 => e_iload_n mb_267 dX7_meetsAll_18 rfl (e_iload_n mb_267 dX7_meetsAll_19 rfl (e_iand mb_267 dX7_meetsAll_20 (e_if mb_267 dX7_meetsAll_21 rfl (fun q3 => e_iinc (l1 := [some (aI x0), some (aL l1), none, some (aI (x3 + 1))]) mb_267 dX7_meetsAll_26 rfl (((h.2 (cb_gt.2.mp q1)).2 (cb_eq.2.mp q2)).1 (cb_ne.1.mp q3)).1 rfl (e_goto mb_267 dX7_meetsAll_29 rfl ((((h.2 (cb_gt.2.mp q1)).2 (cb_eq.2.mp q2)).1 (cb_ne.1.mp q3)).2))) (fun q3 => e_iconst mb_267 dX7_meetsAll_24 cv_iconst_0 (e_ireturn mb_267 dX7_meetsAll_25 (ri_267 (Or.inl rfl)) (((h.2 (cb_gt.2.mp q1)).2 (cb_eq.2.mp q2)).2 (cb_ne.2.mp q3))))))))))))))))))
theorem v_267 {sc : Nat × (Nat → Int)} {I : IH} {L : LH} {R : RH} {K : KH} {Q : AQ} {a0 : Int} {b1 : Int64} (hL : Lay R K) (p0 : 0 ≤ a0 ∧ a0 < 64) (h : Q (some (aI (b2i (meetP b1 a0.toNat)))) I L R K) : E sc 267 0 [some (aI a0), some (aL b1), none, none] [] I L R K Q := by
  have key : ∀ z : Int, z = b2i (meetP b1 a0.toNat) → Q (some (aI z)) I L R K := fun z e => e ▸ h
  have ea : ((a0.toNat : Nat) : Int) = a0 := by omega
  have k2 : (fun (m : Nat) => ∀ (x3 : Int), (∀ i, i < m → (b1.toBitVec.getLsbD i = true → i &&& a0.toNat ≠ 0)) → x3 = (m : Int) → E sc 267 2 [some (aI a0), some (aL b1), none, some (aI x3)] [] I L R K Q) 0 := by
    refine loop_up (C := fun (m : Nat) => ∀ (x3 : Int), (∀ i, i < m → (b1.toBitVec.getLsbD i = true → i &&& a0.toNat ≠ 0)) → x3 = (m : Int) → E sc 267 2 [some (aI a0), some (aL b1), none, some (aI x3)] [] I L R K Q) 64 ?_ ?_
    · intro m hm hc x3 hok h3
      subst h3
      have ed : iand (m : Int) a0 = ((m &&& a0.toNat : Nat) : Int) := by
        have := iand_nat (a := m) (b := a0.toNat) (by omega)
        rw [ea] at this; exact this
      refine w_267_2 hL ?_
      rw [ed]
      refine ⟨fun q => by omega, fun q => ⟨fun q2 => ⟨by omega, hc _ ?_ (by omega)⟩, fun q2 => ⟨fun q3 => ⟨by omega, hc _ ?_ (by omega)⟩, fun q3 => key _ ?_⟩⟩⟩
      · intro i hi hb
        by_cases e : i = m
        · rw [e, (lbit0 hm).mp q2] at hb; exact absurd hb Bool.false_ne_true
        · exact hok i (by omega) hb
      · intro i hi hb
        by_cases e : i = m
        · rw [e]; omega
        · exact hok i (by omega) hb
      · rw [b2i, if_neg]
        intro q4
        have hb : b1.toBitVec.getLsbD m = true := by
          cases hb : b1.toBitVec.getLsbD m
          · exact absurd ((lbit0 hm).mpr hb) q2
          · rfl
        exact q4 m hm hb (by omega)
    · intro x3 hok h3
      exact w_267_2 hL ⟨fun q => key _ (by rw [b2i, if_pos hok]), fun q => by omega⟩
  exact w_267_0 hL (k2 _ (fun i hi => by omega) rfl)
theorem lor_bit {w : Int64} {x j : Nat} (hx : x < 64) (hj : j < 64) : (w ||| ((Int64.ofNat ((1 : _root_.Fin 2) : Nat)) <<< ((Int32.ofInt (x : Int)).toInt64 &&& 63))).toBitVec.getLsbD j = (w.toBitVec.getLsbD j || decide (x = j)) := by
  rw [ofi_nat]
  have e2 : (Int64.ofNat ((1 : _root_.Fin 2) : Nat)) <<< ((nI x).toInt64 &&& 63) = lN (2 ^ x) := by
    have h1 := wb_shl 1 hx
    rw [Nat.one_mul] at h1
    exact h1
  rw [e2, Int64.toBitVec_or, BitVec.getLsbD_or, wb_tb, BitVec.getLsbD_ofNat, Nat.testBit_two_pow]
  simp [hj]
/-- a set of FIELDS shows it: no SORT that is not such agrees with the least in all of them -/
abbrev okSh (p : Nat → Prop) [DecidablePred p] (a : Int) (x : Nat) : Prop := ∀ s, s < 1536 → (¬ p s → mskF a (s : Int) 6 &&& x ≠ 0)
def bstF (ok : Nat → Prop) [DecidablePred ok] : Nat → Nat
  | 0 => 63
  | n + 1 => if pcN 7 n < pcN 7 (bstF ok n) ∧ ok n then n else bstF ok n
def shwV (p : Nat → Prop) [DecidablePred p] : Int := if fstF p 1536 < 0 then -1 else ((bstF (okSh p (fstF p 1536)) 63 : Nat) : Int)
theorem bst_lt {ok : Nat → Prop} [DecidablePred ok] : ∀ n, n ≤ 63 → bstF ok n < 64 := by
  intro n
  induction n with
  | zero => intro _; show 63 < 64; omega
  | succ n ih =>
    intro h
    have := ih (by omega)
    rw [bstF]; split <;> omega
theorem fst_rng {p : Nat → Prop} [DecidablePred p] (n : Nat) : fstF p n = -1 ∨ (0 ≤ fstF p n ∧ fstF p n < n ∧ p (fstF p n).toNat) := by
  rcases fstF_spec (p := p) n with ⟨h1, -⟩ | ⟨j, h1, h2, h3, -⟩
  · exact Or.inl h1
  · rw [h3, Int.toNat_natCast]; exact Or.inr ⟨by omega, by omega, h2⟩
theorem w_265_0 {sc : Nat × (Nat → Int)} {I : IH} {L : LH} {R : RH} {K : KH} {Q : AQ} {t : Nat} (hL : Lay R K) (h : (K.1 t = 7 ∧ (SetAt R K t)) ∧ ((0 ≤ (fstF (fun s => inSet L (rf R t 0) s) 1536) → E sc 265 16 [some (aR (some t)), some (aI (fstF (fun s => inSet L (rf R t 0) s) 1536)), some (aL (Int64.ofNat ((0 : _root_.Fin 2) : Nat))), none, some (aI 0), none, none] [] I L R K Q) ∧ ((fstF (fun s => inSet L (rf R t 0) s) 1536) < 0 → Q (some (aI (-1))) I L R K))) : E sc 265 0 [some (aR (some t)), none, none, none, none, none, none] [] I L R K Q :=
  e_aload_n mb_265 dX7_fieldsThatShow_0 rfl (e_callV mb_265 dX7_fieldsThatShow_1 mf_265 mf_264 cs_28703 rfl rfl rfl rfl h.1.1 rfl (v_264 hL h.1.2 (show E _ _ _ _ (_ :: _) _ _ _ _ _ from e_istore_n (l1 := [some (aR (some t)), some (aI (fstF (fun s => inSet L (rf R t 0) s) 1536)), none, none, none, none, none]) mb_265 dX7_fieldsThatShow_4 rfl (e_iload_n mb_265 dX7_fieldsThatShow_5 rfl (e_if mb_265 dX7_fieldsThatShow_6 rfl (fun q1 => e_lconst mb_265 dX7_fieldsThatShow_11 (e_lstore_n (l1 := [some (aR (some t)), some (aI (fstF (fun s => inSet L (rf R t 0) s) 1536)), some (aL (Int64.ofNat ((0 : _root_.Fin 2) : Nat))), none, none, none, none]) mb_265 dX7_fieldsThatShow_12 rfl (e_iconst mb_265 dX7_fieldsThatShow_13 cv_iconst_0 (e_istore (l1 := [some (aR (some t)), some (aI (fstF (fun s => inSet L (rf R t 0) s) 1536)), some (aL (Int64.ofNat ((0 : _root_.Fin 2) : Nat))), none, some (aI 0), none, none]) mb_265 dX7_fieldsThatShow_14 rfl ((h.2.1 (cb_ge.1.mp q1))))))) (fun q1 => e_iconst mb_265 dX7_fieldsThatShow_9 cv_iconst_m1 (e_ireturn mb_265 dX7_fieldsThatShow_10 ri_265 (h.2.2 (cb_ge.2.mp q1)))))))))
theorem w_265_16 {sc : Nat × (Nat → Int)} {I : IH} {L : LH} {R : RH} {K : KH} {Q : AQ} {x1 x4 : Int} {r0 : Nat} {l2 : Int64} {o5 o6 : Option AV} (no5 : nL o5) (no6 : nL o6) (hL : Lay R K) (h : ((1536 ≤ x4 → E sc 265 57 [some (aR (some r0)), some (aI x1), some (aL l2), none, some (aI 63), some (aI 0), o6] [] I L R K Q) ∧ (x4 < 1536 → (K.1 r0 = 7 ∧ (SetAt R K r0)) ∧ ((0 ≤ x4 ∧ x4 < 1536 ∧ inSet L (rf R r0 0) x4.toNat → ((-2147483648 : Int) ≤ x4 + 1 ∧ x4 + 1 < (2147483648 : Int)) ∧ E sc 265 16 [some (aR (some r0)), some (aI x1), some (aL l2), none, some (aI (x4 + 1)), o5, o6] [] I L R K Q) ∧ (¬(0 ≤ x4 ∧ x4 < 1536 ∧ inSet L (rf R r0 0) x4.toNat) → ((0 ≤ x1 ∧ x1 < 1536) ∧ (0 ≤ x4 ∧ x4 < 1536)) ∧ ((-2147483648 : Int) ≤ x4 + 1 ∧ x4 + 1 < (2147483648 : Int)) ∧ E sc 265 16 [some (aR (some r0)), some (aI x1), some (aL (l2 ||| ((Int64.ofNat ((1 : _root_.Fin 2) : Nat)) <<< ((Int32.ofInt ((mskF x1 x4 6 : Nat) : Int)).toInt64 &&& 63)))), none, some (aI (x4 + 1)), o5, o6] [] I L R K Q))))) : E sc 265 16 [some (aR (some r0)), some (aI x1), some (aL l2), none, some (aI x4), o5, o6] [] I L R K Q :=
  e_iload mb_265 dX7_fieldsThatShow_16 rfl (e_sipush mb_265 dX7_fieldsThatShow_18 cv_sipush_1536 (e_icmp mb_265 dX7_fieldsThatShow_21 rfl (fun q1 => e_bipush mb_265 dX7_fieldsThatShow_50 cv_bipush_63 (e_istore (l1 := [some (aR (some r0)), some (aI x1), some (aL l2), none, some (aI 63), o5, o6]) mb_265 dX7_fieldsThatShow_52 rfl (e_iconst mb_265 dX7_fieldsThatShow_54 cv_iconst_0 (e_istore (l1 := [some (aR (some r0)), some (aI x1), some (aL l2), none, some (aI 63), some (aI 0), o6]) mb_265 dX7_fieldsThatShow_55 rfl ((h.1 (cb_ge.1.mp q1))))))) (fun q1 => e_aload_n mb_265 dX7_fieldsThatShow_24 rfl (e_iload mb_265 dX7_fieldsThatShow_25 rfl (e_callV mb_265 dX7_fieldsThatShow_27 mf_265 mf_262 cs_28699 rfl rfl rfl rfl (h.2 (cb_ge.2.mp q1)).1.1 rfl (v_262 hL (h.2 (cb_ge.2.mp q1)).1.2 (show E _ _ _ _ (_ :: _) _ _ _ _ _ from e_ifb_ne mb_265 dX7_fieldsThatShow_30 rfl ⟨fun q2 => e_iinc (l1 := [some (aR (some r0)), some (aI x1), some (aL l2), none, some (aI (x4 + 1)), o5, o6]) mb_265 dX7_fieldsThatShow_44 rfl ((h.2 (cb_ge.2.mp q1)).2.1 q2).1 rfl (e_goto mb_265 dX7_fieldsThatShow_47 rfl (((h.2 (cb_ge.2.mp q1)).2.1 q2).2)), fun q2 => e_lload_n mb_265 dX7_fieldsThatShow_33 rfl (e_lconst mb_265 dX7_fieldsThatShow_34 (e_iload_n mb_265 dX7_fieldsThatShow_35 rfl (e_iload mb_265 dX7_fieldsThatShow_36 rfl (e_callS mb_265 dX7_fieldsThatShow_38 mf_265 mf_266 cs_28707 rfl rfl rfl rfl (v_266 hL ((h.2 (cb_ge.2.mp q1)).2.2 q2).1.1 ((h.2 (cb_ge.2.mp q1)).2.2 q2).1.2 (show E _ _ _ _ (_ :: _) _ _ _ _ _ from e_lshl mb_265 dX7_fieldsThatShow_41 (e_lor mb_265 dX7_fieldsThatShow_42 (e_lstore_n (l1 := [some (aR (some r0)), some (aI x1), some (aL (l2 ||| ((Int64.ofNat ((1 : _root_.Fin 2) : Nat)) <<< ((Int32.ofInt ((mskF x1 x4 6 : Nat) : Int)).toInt64 &&& 63)))), none, some (aI x4), o5, o6]) mb_265 dX7_fieldsThatShow_43 rfl (e_iinc (l1 := [some (aR (some r0)), some (aI x1), some (aL (l2 ||| ((Int64.ofNat ((1 : _root_.Fin 2) : Nat)) <<< ((Int32.ofInt ((mskF x1 x4 6 : Nat) : Int)).toInt64 &&& 63)))), none, some (aI (x4 + 1)), o5, o6]) mb_265 dX7_fieldsThatShow_44 rfl ((h.2 (cb_ge.2.mp q1)).2.2 q2).2.1 rfl (e_goto mb_265 dX7_fieldsThatShow_47 rfl (((h.2 (cb_ge.2.mp q1)).2.2 q2).2.2)))))))))))⟩)))))))
theorem w_265_57 {sc : Nat × (Nat → Int)} {I : IH} {L : LH} {R : RH} {K : KH} {Q : AQ} {x4 x5 : Int} {l2 : Int64} {o0 o1 o6 : Option AV} (no0 : nL o0) (no1 : nL o1) (no6 : nL o6) (hL : Lay R K) (h : ((63 ≤ x5 → Q (some (aI x4)) I L R K) ∧ (x5 < 63 → ((0 ≤ x5 ∧ x5 < 128)) ∧ ((0 ≤ x4 ∧ x4 < 128)) ∧ ((((pcN 7 x4.toNat : Nat) : Int) ≤ ((pcN 7 x5.toNat : Nat) : Int) → ((-2147483648 : Int) ≤ x5 + 1 ∧ x5 + 1 < (2147483648 : Int)) ∧ E sc 265 57 [o0, o1, some (aL l2), none, some (aI x4), some (aI (x5 + 1)), some (aI 0)] [] I L R K Q) ∧ (((pcN 7 x5.toNat : Nat) : Int) < ((pcN 7 x4.toNat : Nat) : Int) → ((0 ≤ x5 ∧ x5 < 64)) ∧ ((meetP l2 x5.toNat → ((-2147483648 : Int) ≤ x5 + 1 ∧ x5 + 1 < (2147483648 : Int)) ∧ E sc 265 57 [o0, o1, some (aL l2), none, some (aI x5), some (aI (x5 + 1)), some (aI 1)] [] I L R K Q) ∧ (¬(meetP l2 x5.toNat) → ((-2147483648 : Int) ≤ x5 + 1 ∧ x5 + 1 < (2147483648 : Int)) ∧ E sc 265 57 [o0, o1, some (aL l2), none, some (aI x4), some (aI (x5 + 1)), some (aI 1)] [] I L R K Q))))))) : E sc 265 57 [o0, o1, some (aL l2), none, some (aI x4), some (aI x5), o6] [] I L R K Q :=
  e_iload mb_265 dX7_fieldsThatShow_57 rfl (e_bipush mb_265 dX7_fieldsThatShow_59 cv_bipush_63 (e_icmp mb_265 dX7_fieldsThatShow_61 rfl (fun q1 => e_iload mb_265 dX7_fieldsThatShow_108 rfl (e_ireturn mb_265 dX7_fieldsThatShow_110 ri_265 (h.1 (cb_ge.1.mp q1)))) (fun q1 => e_iload mb_265 dX7_fieldsThatShow_64 rfl (e_callS mb_265 dX7_fieldsThatShow_66 mf_265 mf_315 cs_28711 rfl rfl rfl rfl (v_315 hL (h.2 (cb_ge.2.mp q1)).1 (show E _ _ _ _ (_ :: _) _ _ _ _ _ from e_iload mb_265 dX7_fieldsThatShow_69 rfl (e_callS mb_265 dX7_fieldsThatShow_71 mf_265 mf_315 cs_28711 rfl rfl rfl rfl (v_315 hL (h.2 (cb_ge.2.mp q1)).2.1 (show E _ _ _ _ (_ :: _) _ _ _ _ _ from e_icmp mb_265 dX7_fieldsThatShow_74 rfl (fun q2 => e_iconst mb_265 dX7_fieldsThatShow_81 cv_iconst_0 (e_istore (l1 := [o0, o1, some (aL l2), none, some (aI x4), some (aI x5), some (aI 0)]) mb_265 dX7_fieldsThatShow_82 rfl (e_iload mb_265 dX7_fieldsThatShow_84 rfl (e_if mb_265 dX7_fieldsThatShow_86 rfl (fun _ => e_iinc (l1 := [o0, o1, some (aL l2), none, some (aI x4), some (aI (x5 + 1)), some (aI 0)]) mb_265 dX7_fieldsThatShow_102 rfl ((h.2 (cb_ge.2.mp q1)).2.2.1 (cb_ge.1.mp q2)).1 rfl (e_goto mb_265 dX7_fieldsThatShow_105 rfl (((h.2 (cb_ge.2.mp q1)).2.2.1 (cb_ge.1.mp q2)).2))) (fun q => absurd q (by decide)))))) (fun q2 => e_iconst mb_265 dX7_fieldsThatShow_77 cv_iconst_1 (e_goto mb_265 dX7_fieldsThatShow_78 rfl (e_istore (l1 := [o0, o1, some (aL l2), none, some (aI x4), some (aI x5), some (aI 1)]) mb_265 dX7_fieldsThatShow_82 rfl (e_iload mb_265 dX7_fieldsThatShow_84 rfl (e_if mb_265 dX7_fieldsThatShow_86 rfl (fun q => absurd q (by decide)) (fun _ => e_iload mb_265 dX7_fieldsThatShow_89 rfl (e_lload_n mb_265 dX7_fieldsThatShow_91 rfl (e_callS mb_265 dX7_fieldsThatShow_92 mf_265 mf_267 cs_28716 rfl rfl rfl rfl (v_267 hL ((h.2 (cb_ge.2.mp q1)).2.2.2 (cb_ge.2.mp q2)).1 (show E _ _ _ _ (_ :: _) _ _ _ _ _ from e_ifb_eq mb_265 dX7_fieldsThatShow_95 rfl ⟨fun q3 => e_iload mb_265 dX7_fieldsThatShow_98 rfl (e_istore (l1 := [o0, o1, some (aL l2), none, some (aI x5), some (aI x5), some (aI 1)]) mb_265 dX7_fieldsThatShow_100 rfl (e_iinc (l1 := [o0, o1, some (aL l2), none, some (aI x5), some (aI (x5 + 1)), some (aI 1)]) mb_265 dX7_fieldsThatShow_102 rfl (((h.2 (cb_ge.2.mp q1)).2.2.2 (cb_ge.2.mp q2)).2.1 q3).1 rfl (e_goto mb_265 dX7_fieldsThatShow_105 rfl ((((h.2 (cb_ge.2.mp q1)).2.2.2 (cb_ge.2.mp q2)).2.1 q3).2)))), fun q3 => e_iinc (l1 := [o0, o1, some (aL l2), none, some (aI x4), some (aI (x5 + 1)), some (aI 1)]) mb_265 dX7_fieldsThatShow_102 rfl (((h.2 (cb_ge.2.mp q1)).2.2.2 (cb_ge.2.mp q2)).2.2 q3).1 rfl (e_goto mb_265 dX7_fieldsThatShow_105 rfl ((((h.2 (cb_ge.2.mp q1)).2.2.2 (cb_ge.2.mp q2)).2.2 q3).2))⟩)))))))))))))))))))
set_option maxHeartbeats 1000000 in
theorem v_265 {sc : Nat × (Nat → Int)} {I : IH} {L : LH} {R : RH} {K : KH} {Q : AQ} {t : Nat} (hL : Lay R K) (hs : SetAt R K t) (h : Q (some (aI (shwV (fun s => inSet L (rf R t 0) s)))) I L R K) : E sc 265 0 [some (aR (some t)), none, none, none, none, none, none] [] I L R K Q := by
  have key : ∀ z : Int, z = shwV (fun s => inSet L (rf R t 0) s) → Q (some (aI z)) I L R K := fun z e => e ▸ h
  obtain ⟨a, ha⟩ : ∃ a, a = fstF (fun s => inSet L (rf R t 0) s) 1536 := ⟨_, rfl⟩
  have har := fst_rng (p := fun s => inSet L (rf R t 0) s) 1536
  rw [← ha] at har
  have part2 : 0 ≤ a → ∀ l : Int64, (∀ x, x < 64 → (meetP l x ↔ okSh (fun s => inSet L (rf R t 0) s) a x)) → (fun (m : Nat) => ∀ (o0 o1 o6 : Option AV) (x4 x5 : Int), nL o0 → nL o1 → nL o6 → x4 = ((bstF (okSh (fun s => inSet L (rf R t 0) s) a) m : Nat) : Int) → x5 = (m : Int) → E sc 265 57 [o0, o1, some (aL l), none, some (aI x4), some (aI x5), o6] [] I L R K Q) 0 := by
    intro h0 l hl
    refine loop_up (C := fun (m : Nat) => ∀ (o0 o1 o6 : Option AV) (x4 x5 : Int), nL o0 → nL o1 → nL o6 → x4 = ((bstF (okSh (fun s => inSet L (rf R t 0) s) a) m : Nat) : Int) → x5 = (m : Int) → E sc 265 57 [o0, o1, some (aL l), none, some (aI x4), some (aI x5), o6] [] I L R K Q) 63 ?_ ?_
    · intro m hm hc o0 o1 o6 x4 x5 n0 n1 n6 h4 h5
      subst h5
      have hb := bst_lt (ok := okSh (fun s => inSet L (rf R t 0) s) a) m (by omega)
      have e : bstF (okSh (fun s => inSet L (rf R t 0) s) a) (m + 1) = if pcN 7 m < pcN 7 (bstF (okSh (fun s => inSet L (rf R t 0) s) a) m) ∧ okSh (fun s => inSet L (rf R t 0) s) a m then m else bstF (okSh (fun s => inSet L (rf R t 0) s) a) m := rfl
      have hlm := hl m (by omega)
      have e4 : x4.toNat = bstF (okSh (fun s => inSet L (rf R t 0) s) a) m := by omega
      refine w_265_57 n0 n1 n6 hL ?_
      simp only [e4, Int.toNat_natCast]
      exact ⟨fun q1 => (by omega), fun q1 => ⟨(by first | omega | exact ⟨by omega, by omega⟩), ⟨(by first | omega | exact ⟨by omega, by omega⟩), ⟨fun q2 => ⟨(by first | omega | exact ⟨by omega, by omega⟩), (by first | (exfalso; omega) | exact hc _ _ _ _ _ n0 n1 (by first | exact nl_i | assumption) (by rw [e, if_pos ⟨by omega, hlm.mp (by assumption)⟩]) (by omega) | exact hc _ _ _ _ _ n0 n1 (by first | exact nl_i | assumption) (by rw [e, if_neg (fun q => by first | (have := q.1; omega) | exact absurd (hlm.mpr q.2) (by assumption))]; exact h4) (by omega))⟩, fun q2 => ⟨(by first | omega | exact ⟨by omega, by omega⟩), ⟨fun q3 => ⟨(by first | omega | exact ⟨by omega, by omega⟩), (by first | (exfalso; omega) | exact hc _ _ _ _ _ n0 n1 (by first | exact nl_i | assumption) (by rw [e, if_pos ⟨by omega, hlm.mp (by assumption)⟩]) (by omega) | exact hc _ _ _ _ _ n0 n1 (by first | exact nl_i | assumption) (by rw [e, if_neg (fun q => by first | (have := q.1; omega) | exact absurd (hlm.mpr q.2) (by assumption))]; exact h4) (by omega))⟩, fun q3 => ⟨(by first | omega | exact ⟨by omega, by omega⟩), (by first | (exfalso; omega) | exact hc _ _ _ _ _ n0 n1 (by first | exact nl_i | assumption) (by rw [e, if_pos ⟨by omega, hlm.mp (by assumption)⟩]) (by omega) | exact hc _ _ _ _ _ n0 n1 (by first | exact nl_i | assumption) (by rw [e, if_neg (fun q => by first | (have := q.1; omega) | exact absurd (hlm.mpr q.2) (by assumption))]; exact h4) (by omega))⟩⟩⟩⟩⟩⟩⟩
    · intro o0 o1 o6 x4 x5 n0 n1 n6 h4 h5
      exact w_265_57 n0 n1 n6 hL ⟨fun q => key _ (by unfold shwV; rw [← ha, if_neg (by omega), h4]), fun q => by omega⟩
  have part1 : 0 ≤ a → (fun (m : Nat) => ∀ (o5 o6 : Option AV) (l : Int64) (x4 : Int), nL o5 → nL o6 → (∀ j, j < 64 → (l.toBitVec.getLsbD j = true ↔ ∃ s, s < m ∧ ¬ inSet L (rf R t 0) s ∧ mskF a (s : Int) 6 = j)) → x4 = (m : Int) → E sc 265 16 [some (aR (some t)), some (aI a), some (aL l), none, some (aI x4), o5, o6] [] I L R K Q) 0 := by
    intro h0
    refine loop_up (C := fun (m : Nat) => ∀ (o5 o6 : Option AV) (l : Int64) (x4 : Int), nL o5 → nL o6 → (∀ j, j < 64 → (l.toBitVec.getLsbD j = true ↔ ∃ s, s < m ∧ ¬ inSet L (rf R t 0) s ∧ mskF a (s : Int) 6 = j)) → x4 = (m : Int) → E sc 265 16 [some (aR (some t)), some (aI a), some (aL l), none, some (aI x4), o5, o6] [] I L R K Q) 1536 ?_ ?_
    · intro m hm hc o5 o6 l x4 n5 n6 hl h4
      subst h4
      have hml := msk_lt a (m : Int) 6
      refine w_265_16 n5 n6 hL ?_
      rw [Int.toNat_natCast]
      refine ⟨fun q => by omega, fun q => ⟨⟨hs.1, hs⟩, fun q2 => ⟨by omega, hc _ _ _ _ n5 n6 ?_ (by omega)⟩, fun q2 => ⟨⟨by omega, by omega⟩, by omega, hc _ _ _ _ n5 n6 ?_ (by omega)⟩⟩⟩
      · intro j hj
        rw [hl j hj]
        constructor
        · rintro ⟨s, s1, s2, s3⟩; exact ⟨s, by omega, s2, s3⟩
        · rintro ⟨s, s1, s2, s3⟩
          refine ⟨s, ?_, s2, s3⟩
          by_cases e : s = m
          · rw [e] at s2; exact absurd q2.2.2 s2
          · omega
      · intro j hj
        rw [lor_bit (show mskF a (m : Int) 6 < 64 from hml) hj, Bool.or_eq_true, hl j hj, decide_eq_true_iff]
        constructor
        · rintro (⟨s, s1, s2, s3⟩ | s3)
          · exact ⟨s, by omega, s2, s3⟩
          · exact ⟨m, by omega, fun q3 => q2 ⟨by omega, by omega, q3⟩, s3⟩
        · rintro ⟨s, s1, s2, s3⟩
          by_cases e : s = m
          · rw [e] at s3; exact Or.inr s3
          · exact Or.inl ⟨s, by omega, s2, s3⟩
    · intro o5 o6 l x4 n5 n6 hl h4
      refine w_265_16 n5 n6 hL ⟨fun q => ?_, fun q => by omega⟩
      refine part2 h0 l (fun x hx => ?_) _ _ _ _ _ nl_r nl_i (by first | assumption | exact nl_i) rfl rfl
      constructor
      · intro hm s hs1 hs2
        have hml := msk_lt a (s : Int) 6
        exact hm _ hml ((hl _ hml).mpr ⟨s, hs1, hs2, rfl⟩)
      · intro ho m hm hb
        obtain ⟨s, s1, s2, s3⟩ := (hl m hm).mp hb
        rw [← s3]; exact ho s s1 s2
  exact w_265_0 hL ⟨⟨hs.1, hs⟩, ⟨fun q1 => (by rw [← ha] at *; exact part1 (by omega) _ _ _ _ nl_n nl_n (fun j hj => ⟨fun q => by rw [show (Int64.ofNat ((0 : _root_.Fin 2) : Nat)).toBitVec.getLsbD j = false from BitVec.getLsbD_zero] at q; exact absurd q Bool.false_ne_true, fun q => by obtain ⟨s, s1, -⟩ := q; omega⟩) rfl), fun q1 => (key _ (by unfold shwV; rw [if_pos (by assumption)]))⟩⟩
def tellV (p : Nat → Prop) [DecidablePred p] (w : Int) : Int := if w = 0 then ((cnt p 1536 : Nat) : Int) else if w = 1 then fstF p 1536 else shwV p
theorem w_52_0 {sc : Nat × (Nat → Int)} {I : IH} {L : LH} {R : RH} {K : KH} {Q : AQ} {a1 : Int} {t : Nat} (hL : Lay R K) (h : ((a1 = 0 → (K.1 t = 7 ∧ (SetAt R K t)) ∧ Q (some (aI ((cnt (fun s => inSet L (rf R t 0) s) 1536 : Nat) : Int))) I L R K) ∧ (a1 = 1 → (K.1 t = 7 ∧ (SetAt R K t)) ∧ Q (some (aI (fstF (fun s => inSet L (rf R t 0) s) 1536))) I L R K) ∧ (a1 ≠ 0 → a1 ≠ 1 → (K.1 t = 7 ∧ (SetAt R K t)) ∧ Q (some (aI (shwV (fun s => inSet L (rf R t 0) s)))) I L R K))) : E sc 52 0 [some (aR (some t)), some (aI a1)] [] I L R K Q :=
  e_iload_n mb_52 dX11_tellOf_0 rfl ((Decidable.byCases (fun q1a : a1 = 0 => e_lsw mb_52 dX11_tellOf_1 rfl (by rw [q1a]; rfl) (e_aload_n mb_52 dX11_tellOf_28 rfl (e_callV mb_52 dX11_tellOf_29 mf_52 mf_263 cs_45332 rfl rfl rfl rfl (h.1 q1a).1.1 rfl (v_263 hL (h.1 q1a).1.2 (show E _ _ _ _ (_ :: _) _ _ _ _ _ from e_ireturn mb_52 dX11_tellOf_32 ri_52 (h.1 q1a).2))))) (fun q1a => (Decidable.byCases (fun q1b : a1 = 1 => e_lsw mb_52 dX11_tellOf_1 rfl (by rw [q1b]; rfl) (e_aload_n mb_52 dX11_tellOf_33 rfl (e_callV mb_52 dX11_tellOf_34 mf_52 mf_264 cs_45521 rfl rfl rfl rfl (h.2.1 q1b).1.1 rfl (v_264 hL (h.2.1 q1b).1.2 (show E _ _ _ _ (_ :: _) _ _ _ _ _ from e_ireturn mb_52 dX11_tellOf_37 ri_52 (h.2.1 q1b).2))))) (fun q1b => e_lsw mb_52 dX11_tellOf_1 rfl (by simp only [Op.lookupswitch.offset, if_neg (Ne.symm q1a), if_neg (Ne.symm q1b)]; rfl) (e_aload_n mb_52 dX11_tellOf_38 rfl (e_callV mb_52 dX11_tellOf_39 mf_52 mf_265 cs_45524 rfl rfl rfl rfl ((h.2.2 q1a) q1b).1.1 rfl (v_265 hL ((h.2.2 q1a) q1b).1.2 (show E _ _ _ _ (_ :: _) _ _ _ _ _ from e_ireturn mb_52 dX11_tellOf_42 ri_52 ((h.2.2 q1a) q1b).2)))))))))
theorem v_52 {sc : Nat × (Nat → Int)} {I : IH} {L : LH} {R : RH} {K : KH} {Q : AQ} {t : Nat} {a1 : Int} (hL : Lay R K) (hs : SetAt R K t) (h : Q (some (aI (tellV (fun s => inSet L (rf R t 0) s) a1))) I L R K) : E sc 52 0 [some (aR (some t)), some (aI a1)] [] I L R K Q := by
  have key : ∀ z : Int, z = tellV (fun s => inSet L (rf R t 0) s) a1 → Q (some (aI z)) I L R K := fun z e => e ▸ h
  exact w_52_0 hL ⟨fun q1a => ⟨(by first | exact hs | exact ⟨hs.1, hs⟩ | exact ⟨trivial, hs⟩), (key _ (by unfold tellV; first | (rw [if_pos (by assumption)]; done) | (rw [if_neg (by omega), if_pos (by assumption)]; done) | (rw [if_neg (by assumption), if_neg (by assumption)]; done)))⟩, fun q1b => ⟨(by first | exact hs | exact ⟨hs.1, hs⟩ | exact ⟨trivial, hs⟩), (key _ (by unfold tellV; first | (rw [if_pos (by assumption)]; done) | (rw [if_neg (by omega), if_pos (by assumption)]; done) | (rw [if_neg (by assumption), if_neg (by assumption)]; done)))⟩, fun q1a q1b => ⟨(by first | exact hs | exact ⟨hs.1, hs⟩ | exact ⟨trivial, hs⟩), (key _ (by unfold tellV; first | (rw [if_pos (by assumption)]; done) | (rw [if_neg (by omega), if_pos (by assumption)]; done) | (rw [if_neg (by assumption), if_neg (by assumption)]; done)))⟩⟩
