/-! near: the class -/
def nW (I : IH) (k : Nat) : Nat := max (I 111 k).toNat 1
def NN (I : IH) : Nat → Nat
  | 0 => 1
  | k + 1 => NN I k * nW I k
def TT (I : IH) (s : Int) : Nat → Nat → Int
  | 0, _ => T0 I s
  | k + 1, q => if 0 < I 111 k ∧ fitsM I (80 + 3 * k + q % nW I k) s = true then jn (TT I s k (q / nW I k)) (I 112 (3 * k + q % nW I k)) (I 79 (80 + 3 * k + q % nW I k)) else TT I s k (q / nW I k)
def KPp (I : IH) (p m : Nat) : Int := sumTo (fun (s : Nat) => conI I (s : Int) (TT I (s : Int) 5 p % 256 - 3)) m
theorem nW_b {N : Nat} {I : IH} {L : LH} {R : RH} {K : KH} (hI : Inv N I L R K) {k : Nat} (hk : k < 5) : 1 ≤ nW I k ∧ nW I k ≤ 3 ∧ (I 111 k ≤ 0 → nW I k = 1) ∧ (0 < I 111 k → (nW I k : Int) = I 111 k) ∧ max (I 111 k) 1 = (nW I k : Int) := by
  have := (iW hI).1 k hk
  unfold nW
  omega
theorem NN_b {N : Nat} {I : IH} {L : LH} {R : RH} {K : KH} (hI : Inv N I L R K) : ∀ k, k ≤ 5 → 1 ≤ NN I k ∧ NN I k ≤ 3 ^ k := by
  intro k
  induction k with
  | zero => intro _; exact ⟨Nat.le_refl _, Nat.le_refl _⟩
  | succ k ih =>
    intro hk
    have h1 := ih (by omega)
    have h2 := nW_b hI (k := k) (by omega)
    rw [NN, Nat.pow_succ]
    exact ⟨Nat.mul_le_mul h1.1 h2.1, Nat.mul_le_mul h1.2 h2.2.1⟩
theorem NN_243 {N : Nat} {I : IH} {L : LH} {R : RH} {K : KH} (hI : Inv N I L R K) {k : Nat} (hk : k ≤ 5) : NN I k ≤ 243 := by
  have h := (NN_b hI k hk).2
  have h2 : 3 ^ k ≤ 3 ^ 5 := Nat.pow_le_pow_right (by omega) hk
  omega
theorem way_k {N : Nat} {I : IH} {L : LH} {R : RH} {K : KH} (hI : Inv N I L R K) {k d : Nat} (hk : k < 5) (hd : (d : Int) < I 111 k) : R 37 (3 * k + d) = some (rf R 37 (3 * k + d)) ∧ TextEq I L R K (rf R 37 (3 * k + d)) (80 + 3 * k + d) ∧ (I 38 (3 * k + d) = I 112 (3 * k + d) ∧ 0 ≤ I 112 (3 * k + d) ∧ I 112 (3 * k + d) ≤ 9) ∧ d < 3 := by
  have hW := iW hI
  have h1 := hW.1 k hk
  have h3 := hW.2 k d hk hd
  exact ⟨h3.1, h3.2.1, h3.2.2.1, by omega⟩
theorem TT_rng {N : Nat} {I : IH} {L : LH} {R : RH} {K : KH} (hI : Inv N I L R K) {s : Int} : ∀ k q, k ≤ 5 → 0 ≤ TT I s k q ∧ TT I s k q < 65536 := by
  intro k
  induction k with
  | zero => intro q _; exact tmN_rng hI
  | succ k ih =>
    intro q hk
    have h1 := ih (q / nW I k) (by omega)
    rw [TT]
    split
    · rename_i g
      have hn := nW_b hI (k := k) (by omega)
      have hm := Nat.mod_lt q (show nW I k > 0 by omega)
      have h2 := way_k hI (k := k) (d := q % nW I k) (by omega) (by have := hn.2.2.2.1 g.1; omega)
      have e := h2.2.1.2.1
      exact jn_rng h1 h2.2.2.1.2 (by omega)
    · exact h1
theorem KPp_b {N : Nat} {I : IH} {L : LH} {R : RH} {K : KH} (hI : Inv N I L R K) {p : Nat} : ∀ m : Nat, 0 ≤ KPp I p m ∧ KPp I p m ≤ 3960 * m := by
  intro m
  induction m with
  | zero => exact ⟨Int.le_refl _, Int.le_refl _⟩
  | succ m ih =>
    have e : KPp I p (m + 1) = KPp I p m + conI I (m : Int) (TT I (m : Int) 5 p % 256 - 3) := rfl
    have h2 : 0 ≤ conI I (m : Int) (TT I (m : Int) 5 p % 256 - 3) ∧ conI I (m : Int) (TT I (m : Int) 5 p % 256 - 3) ≤ 3960 := by
      unfold conI
      split
      · have := conP_b hI (s := (m : Int)) (e := TT I (m : Int) 5 p % 256 - 3) 5
        omega
      · omega
    rw [e]
    omega
def fwB (f : Nat → Bool) : Nat → Nat
  | 0 => 0
  | n + 1 => if f n = true then fwB f n + 2 ^ n else fwB f n
theorem fwB_lt {f : Nat → Bool} : ∀ n, fwB f n < 2 ^ n := by
  intro n
  induction n with
  | zero => exact Nat.lt_succ_self 0
  | succ n ih => rw [fwB, Nat.pow_succ]; split <;> omega
theorem tb_b3 : ∀ b0 b1 b2 : Bool, iand (ishr (((if b0 = true then 0 + 2 ^ 0 else 0 : Nat) : Int)) 0) 1 = (if b0 = true then 1 else 0) ∧ iand (ishr (((if b1 = true then (if b0 = true then 0 + 2 ^ 0 else 0) + 2 ^ 1 else (if b0 = true then 0 + 2 ^ 0 else 0) : Nat) : Int)) 0) 1 = (if b0 = true then 1 else 0) ∧ iand (ishr (((if b1 = true then (if b0 = true then 0 + 2 ^ 0 else 0) + 2 ^ 1 else (if b0 = true then 0 + 2 ^ 0 else 0) : Nat) : Int)) 1) 1 = (if b1 = true then 1 else 0) ∧ iand (ishr (((if b2 = true then (if b1 = true then (if b0 = true then 0 + 2 ^ 0 else 0) + 2 ^ 1 else (if b0 = true then 0 + 2 ^ 0 else 0)) + 2 ^ 2 else (if b1 = true then (if b0 = true then 0 + 2 ^ 0 else 0) + 2 ^ 1 else (if b0 = true then 0 + 2 ^ 0 else 0)) : Nat) : Int)) 0) 1 = (if b0 = true then 1 else 0) ∧ iand (ishr (((if b2 = true then (if b1 = true then (if b0 = true then 0 + 2 ^ 0 else 0) + 2 ^ 1 else (if b0 = true then 0 + 2 ^ 0 else 0)) + 2 ^ 2 else (if b1 = true then (if b0 = true then 0 + 2 ^ 0 else 0) + 2 ^ 1 else (if b0 = true then 0 + 2 ^ 0 else 0)) : Nat) : Int)) 1) 1 = (if b1 = true then 1 else 0) ∧ iand (ishr (((if b2 = true then (if b1 = true then (if b0 = true then 0 + 2 ^ 0 else 0) + 2 ^ 1 else (if b0 = true then 0 + 2 ^ 0 else 0)) + 2 ^ 2 else (if b1 = true then (if b0 = true then 0 + 2 ^ 0 else 0) + 2 ^ 1 else (if b0 = true then 0 + 2 ^ 0 else 0)) : Nat) : Int)) 2) 1 = (if b2 = true then 1 else 0) := by decide +kernel
theorem fwB_bit {f : Nat → Bool} {n i : Nat} (hn : n ≤ 3) (hi : i < n) : iand (ishr ((fwB f n : Nat) : Int) (i : Int)) 1 = if f i = true then 1 else 0 := by
  obtain ⟨t1, t2, t3, t4, t5, t6⟩ := tb_b3 (f 0) (f 1) (f 2)
  have h : (n = 1 ∧ i = 0) ∨ (n = 2 ∧ i = 0) ∨ (n = 2 ∧ i = 1) ∨ (n = 3 ∧ i = 0) ∨ (n = 3 ∧ i = 1) ∨ (n = 3 ∧ i = 2) := by omega
  rcases h with ⟨rfl, rfl⟩ | ⟨rfl, rfl⟩ | ⟨rfl, rfl⟩ | ⟨rfl, rfl⟩ | ⟨rfl, rfl⟩ | ⟨rfl, rfl⟩
  · exact t1
  · exact t2
  · exact t3
  · exact t4
  · exact t5
  · exact t6
def ftB (I : IH) (s : Int) (k : Nat) : Nat → Bool := fun d => fitsM I (80 + 3 * k + d) s
theorem w_310_0 {sc : Nat × (Nat → Int)} {I : IH} {L : LH} {R : RH} {K : KH} {Q : AQ} {a0 a1 : Int} (hL : Lay R K) (h : E sc 310 5 [some (aR (some 36)), some (aI a0), some (aI a1), some (aI 0), some (aI 0)] [] I L R K Q) : E sc 310 0 [some (aR (some 36)), some (aI a0), some (aI a1), none, none] [] I L R K Q :=
  e_iconst mb_310 dX10_waysFitting_0 cv_iconst_0 (e_istore_n (l1 := [some (aR (some 36)), some (aI a0), some (aI a1), some (aI 0), none]) mb_310 dX10_waysFitting_1 rfl (e_iconst mb_310 dX10_waysFitting_2 cv_iconst_0 (e_istore (l1 := [some (aR (some 36)), some (aI a0), some (aI a1), some (aI 0), some (aI 0)]) mb_310 dX10_waysFitting_3 rfl h)))
theorem w_310_5 {sc : Nat × (Nat → Int)} {I : IH} {L : LH} {R : RH} {K : KH} {Q : AQ} {x1 x2 x3 x4 : Int} (hL : Lay R K) (h : (((0 : Int) ≤ x1 ∧ x1 < (5 : Int))) ∧ (((I 39 x1.toNat) ≤ x4 → Q (some (aI x3)) I L R K) ∧ (x4 < (I 39 x1.toNat) → ((-2147483648 : Int) ≤ x1 * 3 ∧ x1 * 3 < (2147483648 : Int)) ∧ ((-2147483648 : Int) ≤ (x1 * 3) + x4 ∧ (x1 * 3) + x4 < (2147483648 : Int)) ∧ (((0 : Int) ≤ ((x1 * 3) + x4) ∧ ((x1 * 3) + x4) < (15 : Int)) ∧ (R 37 (((x1 * 3) + x4).toNat) = some (rf R 37 (((x1 * 3) + x4).toNat)))) ∧ (K.1 (rf R 37 (((x1 * 3) + x4).toNat)) = 9 ∧ R (rf R 37 (((x1 * 3) + x4).toNat)) 4 = some (rf R (rf R 37 (((x1 * 3) + x4).toNat)) 4)) ∧ (K.1 (rf R (rf R 37 (((x1 * 3) + x4).toNat)) 4) = 7 ∧ (SetAt R K (rf R (rf R 37 (((x1 * 3) + x4).toNat)) 4))) ∧ ((0 ≤ x2 ∧ x2 < 1536 ∧ inSet L (rf R (rf R (rf R 37 (((x1 * 3) + x4).toNat)) 4) 0) x2.toNat → ((-2147483648 : Int) ≤ x4 + 1 ∧ x4 + 1 < (2147483648 : Int)) ∧ E sc 310 5 [some (aR (some 36)), some (aI x1), some (aI x2), some (aI (ior x3 (ishl 1 x4))), some (aI (x4 + 1))] [] I L R K Q) ∧ (¬(0 ≤ x2 ∧ x2 < 1536 ∧ inSet L (rf R (rf R (rf R 37 (((x1 * 3) + x4).toNat)) 4) 0) x2.toNat) → ((-2147483648 : Int) ≤ x4 + 1 ∧ x4 + 1 < (2147483648 : Int)) ∧ E sc 310 5 [some (aR (some 36)), some (aI x1), some (aI x2), some (aI x3), some (aI (x4 + 1))] [] I L R K Q))))) : E sc 310 5 [some (aR (some 36)), some (aI x1), some (aI x2), some (aI x3), some (aI x4)] [] I L R K Q :=
  e_iload mb_310 dX10_waysFitting_5 rfl (e_aload_n mb_310 dX10_waysFitting_7 rfl (e_getr mb_310 dX10_waysFitting_8 mf_310.1 fs_40981 fk_10_4 (lk_36 hL) (lr_36_4 hL) (e_iload_n mb_310 dX10_waysFitting_11 rfl (e_ial mb_310 dX10_waysFitting_12 (lk_39 hL) (ll_39 hL) h.1 rfl (e_icmp mb_310 dX10_waysFitting_13 rfl (fun q1 => e_iload_n mb_310 dX10_waysFitting_50 rfl (e_ireturn mb_310 dX10_waysFitting_51 ri_310 (h.2.1 (cb_ge.1.mp q1)))) (fun q1 => e_aload_n mb_310 dX10_waysFitting_16 rfl (e_getr mb_310 dX10_waysFitting_17 mf_310.1 fs_40973 fk_10_2 (lk_36 hL) (lr_36_2 hL) (e_iload_n mb_310 dX10_waysFitting_20 rfl (e_iconst mb_310 dX10_waysFitting_21 cv_iconst_3 (e_imul mb_310 dX10_waysFitting_22 (h.2.2 (cb_ge.2.mp q1)).1 (e_iload mb_310 dX10_waysFitting_23 rfl (e_iadd mb_310 dX10_waysFitting_25 (h.2.2 (cb_ge.2.mp q1)).2.1 (e_aaload mb_310 dX10_waysFitting_26 (by rw [lk_37 hL]; decide) (ll_37 hL) (h.2.2 (cb_ge.2.mp q1)).2.2.1.1 (h.2.2 (cb_ge.2.mp q1)).2.2.1.2 (e_getr mb_310 dX10_waysFitting_27 mf_310.1 fs_41071 fk_9_4 (h.2.2 (cb_ge.2.mp q1)).2.2.2.1.1 (h.2.2 (cb_ge.2.mp q1)).2.2.2.1.2 (e_iload_n mb_310 dX10_waysFitting_30 rfl (e_callV mb_310 dX10_waysFitting_31 mf_310 mf_262 cs_41075 rfl rfl rfl rfl (h.2.2 (cb_ge.2.mp q1)).2.2.2.2.1.1 rfl (v_262 hL (h.2.2 (cb_ge.2.mp q1)).2.2.2.2.1.2 (show E _ _ _ _ (_ :: _) _ _ _ _ _ from e_ifb_eq mb_310 dX10_waysFitting_34 rfl ⟨fun q2 => e_iload_n mb_310 dX10_waysFitting_37 rfl (e_iconst mb_310 dX10_waysFitting_38 cv_iconst_1 (e_iload mb_310 dX10_waysFitting_39 rfl (e_ishl mb_310 dX10_waysFitting_41 (e_ior mb_310 dX10_waysFitting_42 (e_istore_n (l1 := [some (aR (some 36)), some (aI x1), some (aI x2), some (aI (ior x3 (ishl 1 x4))), some (aI x4)]) mb_310 dX10_waysFitting_43 rfl (e_iinc (l1 := [some (aR (some 36)), some (aI x1), some (aI x2), some (aI (ior x3 (ishl 1 x4))), some (aI (x4 + 1))]) mb_310 dX10_waysFitting_44 rfl ((h.2.2 (cb_ge.2.mp q1)).2.2.2.2.2.1 q2).1 rfl (e_goto mb_310 dX10_waysFitting_47 rfl (((h.2.2 (cb_ge.2.mp q1)).2.2.2.2.2.1 q2).2)))))))), fun q2 => e_iinc (l1 := [some (aR (some 36)), some (aI x1), some (aI x2), some (aI x3), some (aI (x4 + 1))]) mb_310 dX10_waysFitting_44 rfl ((h.2.2 (cb_ge.2.mp q1)).2.2.2.2.2.2 q2).1 rfl (e_goto mb_310 dX10_waysFitting_47 rfl (((h.2.2 (cb_ge.2.mp q1)).2.2.2.2.2.2 q2).2))⟩))))))))))))))))))
theorem v_310 {N : Nat} {sc : Nat × (Nat → Int)} {I J : IH} {L : LH} {R : RH} {K : KH} {Q : AQ} {k : Nat} {s : Int} (hL : Lay R K) (hI : Inv N I L R K) (hs : Sg I J) (hk : k < 5) (hs2 : 0 ≤ s ∧ s < 1536) (h : Q (some (aI ((fwB (ftB I s k) (I 111 k).toNat : Nat) : Int))) J L R K) : E sc 310 0 [some (aR (some 36)), some (aI (k : Int)), some (aI s), none, none] [] J L R K Q := by
  have hW := (iW hI).1 k hk
  have e39 : J 39 k = I 111 k := by rw [hs 39 k (by unfold S0; omega)]; exact hW.1
  obtain ⟨n, hn⟩ : ∃ n : Nat, I 111 k = (n : Int) := ⟨(I 111 k).toNat, by omega⟩
  rw [hn, Int.toNat_natCast] at h
  have key : (fun d : Nat => ∀ (x y : Int), x = ((fwB (ftB I s k) d : Nat) : Int) → y = (d : Int) → E sc 310 5 [some (aR (some 36)), some (aI (k : Int)), some (aI s), some (aI x), some (aI y)] [] J L R K Q) 0 := by
    refine loop_up (C := fun d : Nat => ∀ (x y : Int), x = ((fwB (ftB I s k) d : Nat) : Int) → y = (d : Int) → E sc 310 5 [some (aR (some 36)), some (aI (k : Int)), some (aI s), some (aI x), some (aI y)] [] J L R K Q) n ?_ ?_
    · intro d hd hc x y hx hy
      subst hy
      obtain ⟨w1, w2, w3, w4⟩ := way_k hI hk (d := d) (by omega)
      have ei : ((k : Int) * 3 + (d : Int)).toNat = 3 * k + d := by omega
      have w2' := w2
      obtain ⟨⟨t1, t2, t3, t4, t5, t6, t7⟩, t8, t9⟩ := w2'
      have r4 : rf R (rf R 37 (3 * k + d)) 4 = rf R 37 (3 * k + d) + 4 := rf_eq t3
      have r5 : rf R (rf R 37 (3 * k + d) + 4) 0 = rf R 37 (3 * k + d) + 5 := rf_eq t5
      have hset : SetAt R K (rf R (rf R 37 (3 * k + d)) 4) := by
        rw [r4]
        exact ⟨t4, by rw [r5]; exact t5, by rw [r5]; exact t6, by rw [r5]; exact t7⟩
      have hf := t9 s.toNat (by omega)
      rw [show ((s.toNat : Nat) : Int) = s by omega] at hf
      have hlt := fwB_lt (f := ftB I s k) d
      have h8 : (2 : Nat) ^ d ≤ 2 ^ 2 := Nat.pow_le_pow_right (by omega) (by omega)
      have eo := tb_or (fwB (ftB I s k) d) (by omega) d (by omega) (by rw [Nat.div_eq_of_lt hlt])
      have es : fwB (ftB I s k) (d + 1) = if ftB I s k d = true then fwB (ftB I s k) d + 2 ^ d else fwB (ftB I s k) d := rfl
      refine w_310_5 hL ?_
      rw [ei, Int.toNat_natCast, e39, hn]
      refine ⟨by omega, fun q1 => by omega, fun q1 => ⟨by omega, by omega, ⟨by omega, w1⟩, ⟨t2, by rw [r4]; exact t3⟩, ⟨by rw [r4]; exact t4, hset⟩, fun q2 => ⟨by omega, hc _ _ ?_ (by omega)⟩, fun q2 => ⟨by omega, hc _ _ ?_ (by omega)⟩⟩⟩
      · rw [r4, r5] at q2
        rw [es, if_pos (show ftB I s k d = true from hf.1 q2.2.2), hx, eo]
      · rw [r4, r5] at q2
        rw [es, if_neg (show ¬ ftB I s k d = true from fun g => q2 ⟨hs2.1, hs2.2, hf.2 g⟩), hx]
    · intro x y hx hy
      subst hy
      subst hx
      refine w_310_5 hL ?_
      rw [Int.toNat_natCast, e39, hn]
      exact ⟨by omega, fun q1 => h, fun q1 => by omega⟩
  exact w_310_0 hL (key _ _ rfl rfl)
theorem dm3 {c i d : Nat} (hc : 1 ≤ c ∧ c ≤ 3) (hd : d < c) : (i * c + d) / c = i ∧ (i * c + d) % c = d := by
  have h : c = 1 ∨ c = 2 ∨ c = 3 := by omega
  rcases h with rfl | rfl | rfl <;> omega
theorem w_309_0 {sc : Nat × (Nat → Int)} {I : IH} {L : LH} {R : RH} {K : KH} {Q : AQ} {a0 a1 a2 : Int} (hL : Lay R K) (h : (((0 : Int) ≤ a0 ∧ a0 < (5 : Int))) ∧ ((-2147483648 : Int) ≤ a1 - 1 ∧ a1 - 1 < (2147483648 : Int)) ∧ E sc 309 13 [some (aR (some 36)), some (aI a0), some (aI a1), some (aI a2), some (aI (I 39 a0.toNat)), some (aI (a1 - 1)), none, none, none, none] [] I L R K Q) : E sc 309 0 [some (aR (some 36)), some (aI a0), some (aI a1), some (aI a2), none, none, none, none, none, none] [] I L R K Q :=
  e_aload_n mb_309 dX10_spreadOver_0 rfl (e_getr mb_309 dX10_spreadOver_1 mf_309.1 fs_40981 fk_10_4 (lk_36 hL) (lr_36_4 hL) (e_iload_n mb_309 dX10_spreadOver_4 rfl (e_ial mb_309 dX10_spreadOver_5 (lk_39 hL) (ll_39 hL) h.1 rfl (e_istore (l1 := [some (aR (some 36)), some (aI a0), some (aI a1), some (aI a2), some (aI (I 39 a0.toNat)), none, none, none, none, none]) mb_309 dX10_spreadOver_6 rfl (e_iload_n mb_309 dX10_spreadOver_8 rfl (e_iconst mb_309 dX10_spreadOver_9 cv_iconst_1 (e_isub mb_309 dX10_spreadOver_10 h.2.1 (e_istore (l1 := [some (aR (some 36)), some (aI a0), some (aI a1), some (aI a2), some (aI (I 39 a0.toNat)), some (aI (a1 - 1)), none, none, none, none]) mb_309 dX10_spreadOver_11 rfl h.2.2))))))))
theorem w_309_13 {sc : Nat × (Nat → Int)} {I : IH} {L : LH} {R : RH} {K : KH} {Q : AQ} {x1 x3 x4 x5 : Int} {o2 o6 o7 o8 o9 : Option AV} (no2 : nL o2) (no6 : nL o6) (no7 : nL o7) (no8 : nL o8) (no9 : nL o9) (hL : Lay R K) (h : ((x5 < 0 → Q none I L R K) ∧ (0 ≤ x5 → (((0 : Int) ≤ x5 ∧ x5 < (243 : Int))) ∧ ((-2147483648 : Int) ≤ x4 - 1 ∧ x4 - 1 < (2147483648 : Int)) ∧ E sc 309 33 [some (aR (some 36)), some (aI x1), o2, some (aI x3), some (aI x4), some (aI x5), some (aI (I 43 x5.toNat)), some (aI (x4 - 1)), o8, o9] [] I L R K Q))) : E sc 309 13 [some (aR (some 36)), some (aI x1), o2, some (aI x3), some (aI x4), some (aI x5), o6, o7, o8, o9] [] I L R K Q :=
  e_iload mb_309 dX10_spreadOver_13 rfl (e_if mb_309 dX10_spreadOver_15 rfl (fun q1 => e_return mb_309 dX10_spreadOver_119 rv_309 (h.1 (cb_lt.1.mp q1))) (fun q1 => e_aload_n mb_309 dX10_spreadOver_18 rfl (e_getr mb_309 dX10_spreadOver_19 mf_309.1 fs_40993 fk_10_9 (lk_36 hL) (lr_36_9 hL) (e_iload mb_309 dX10_spreadOver_22 rfl (e_ial mb_309 dX10_spreadOver_24 (lk_43 hL) (ll_43 hL) (h.2 (cb_lt.2.mp q1)).1 rfl (e_istore (l1 := [some (aR (some 36)), some (aI x1), o2, some (aI x3), some (aI x4), some (aI x5), some (aI (I 43 x5.toNat)), o7, o8, o9]) mb_309 dX10_spreadOver_25 rfl (e_iload mb_309 dX10_spreadOver_27 rfl (e_iconst mb_309 dX10_spreadOver_29 cv_iconst_1 (e_isub mb_309 dX10_spreadOver_30 (h.2 (cb_lt.2.mp q1)).2.1 (e_istore (l1 := [some (aR (some 36)), some (aI x1), o2, some (aI x3), some (aI x4), some (aI x5), some (aI (I 43 x5.toNat)), some (aI (x4 - 1)), o8, o9]) mb_309 dX10_spreadOver_31 rfl ((h.2 (cb_lt.2.mp q1)).2.2)))))))))))
theorem w_309_33 {sc : Nat × (Nat → Int)} {I : IH} {L : LH} {R : RH} {K : KH} {Q : AQ} {x1 x3 x4 x5 x6 x7 : Int} {o2 o8 o9 : Option AV} (no2 : nL o2) (no8 : nL o8) (no9 : nL o9) (hL : Lay R K) (h : ((x7 < 0 → ((-2147483648 : Int) ≤ x5 + (-1) ∧ x5 + (-1) < (2147483648 : Int)) ∧ E sc 309 13 [some (aR (some 36)), some (aI x1), o2, some (aI x3), some (aI x4), some (aI (x5 + (-1))), some (aI x6), some (aI x7), o8, o9] [] I L R K Q) ∧ (0 ≤ x7 → ((-2147483648 : Int) ≤ x1 * 3 ∧ x1 * 3 < (2147483648 : Int)) ∧ ((-2147483648 : Int) ≤ (x1 * 3) + x7 ∧ (x1 * 3) + x7 < (2147483648 : Int)) ∧ (((iand (ishr x3 x7) 1) = 0 → ((-2147483648 : Int) ≤ x5 * x4 ∧ x5 * x4 < (2147483648 : Int)) ∧ ((-2147483648 : Int) ≤ (x5 * x4) + x7 ∧ (x5 * x4) + x7 < (2147483648 : Int)) ∧ (((0 : Int) ≤ ((x5 * x4) + x7) ∧ ((x5 * x4) + x7) < (243 : Int))) ∧ ((-2147483648 : Int) ≤ x7 + (-1) ∧ x7 + (-1) < (2147483648 : Int)) ∧ E sc 309 33 [some (aR (some 36)), some (aI x1), o2, some (aI x3), some (aI x4), some (aI x5), some (aI x6), some (aI (x7 + (-1))), some (aI ((x1 * 3) + x7)), some (aI 0)] [] (setF I 43 (((x5 * x4) + x7).toNat) x6) L R K Q) ∧ ((iand (ishr x3 x7) 1) ≠ 0 → ((-2147483648 : Int) ≤ x5 * x4 ∧ x5 * x4 < (2147483648 : Int)) ∧ ((-2147483648 : Int) ≤ (x5 * x4) + x7 ∧ (x5 * x4) + x7 < (2147483648 : Int)) ∧ (((0 : Int) ≤ ((x1 * 3) + x7) ∧ ((x1 * 3) + x7) < (15 : Int))) ∧ (((0 : Int) ≤ ((x1 * 3) + x7) ∧ ((x1 * 3) + x7) < (15 : Int)) ∧ (R 37 (((x1 * 3) + x7).toNat) = some (rf R 37 (((x1 * 3) + x7).toNat)))) ∧ (K.1 (rf R 37 (((x1 * 3) + x7).toNat)) = 9) ∧ ((0 ≤ x6 ∧ x6 < 65536) ∧ (0 ≤ (I 38 (((x1 * 3) + x7).toNat)) ∧ (I 38 (((x1 * 3) + x7).toNat)) ≤ 9) ∧ (0 ≤ (I (rf R 37 (((x1 * 3) + x7).toNat)) 8) ∧ (I (rf R 37 (((x1 * 3) + x7).toNat)) 8) ≤ 203)) ∧ (((0 : Int) ≤ ((x5 * x4) + x7) ∧ ((x5 * x4) + x7) < (243 : Int))) ∧ ((-2147483648 : Int) ≤ x7 + (-1) ∧ x7 + (-1) < (2147483648 : Int)) ∧ E sc 309 33 [some (aR (some 36)), some (aI x1), o2, some (aI x3), some (aI x4), some (aI x5), some (aI x6), some (aI (x7 + (-1))), some (aI ((x1 * 3) + x7)), some (aI 1)] [] (setF I 43 (((x5 * x4) + x7).toNat) (jn x6 (I 38 (((x1 * 3) + x7).toNat)) (I (rf R 37 (((x1 * 3) + x7).toNat)) 8))) L R K Q))))) : E sc 309 33 [some (aR (some 36)), some (aI x1), o2, some (aI x3), some (aI x4), some (aI x5), some (aI x6), some (aI x7), o8, o9] [] I L R K Q :=
  e_iload mb_309 dX10_spreadOver_33 rfl (e_if mb_309 dX10_spreadOver_35 rfl (fun q1 => e_iinc (l1 := [some (aR (some 36)), some (aI x1), o2, some (aI x3), some (aI x4), some (aI (x5 + (-1))), some (aI x6), some (aI x7), o8, o9]) mb_309 dX10_spreadOver_113 rfl (h.1 (cb_lt.1.mp q1)).1 rfl (e_goto mb_309 dX10_spreadOver_116 rfl ((h.1 (cb_lt.1.mp q1)).2))) (fun q1 => e_iload_n mb_309 dX10_spreadOver_38 rfl (e_iconst mb_309 dX10_spreadOver_39 cv_iconst_3 (e_imul mb_309 dX10_spreadOver_40 (h.2 (cb_lt.2.mp q1)).1 (e_iload mb_309 dX10_spreadOver_41 rfl (e_iadd mb_309 dX10_spreadOver_43 (h.2 (cb_lt.2.mp q1)).2.1 (e_istore (l1 := [some (aR (some 36)), some (aI x1), o2, some (aI x3), some (aI x4), some (aI x5), some (aI x6), some (aI x7), some (aI ((x1 * 3) + x7)), o9]) mb_309 dX10_spreadOver_44 rfl (e_iload_n mb_309 dX10_spreadOver_46 rfl (e_iload mb_309 dX10_spreadOver_47 rfl (e_ishr mb_309 dX10_spreadOver_49 (e_iconst mb_309 dX10_spreadOver_50 cv_iconst_1 (e_iand mb_309 dX10_spreadOver_51 (e_if mb_309 dX10_spreadOver_52 rfl (fun q2 => e_iconst mb_309 dX10_spreadOver_59 cv_iconst_0 (e_istore (l1 := [some (aR (some 36)), some (aI x1), o2, some (aI x3), some (aI x4), some (aI x5), some (aI x6), some (aI x7), some (aI ((x1 * 3) + x7)), some (aI 0)]) mb_309 dX10_spreadOver_60 rfl (e_aload_n mb_309 dX10_spreadOver_62 rfl (e_getr mb_309 dX10_spreadOver_63 mf_309.1 fs_40993 fk_10_9 (lk_36 hL) (lr_36_9 hL) (e_iload mb_309 dX10_spreadOver_66 rfl (e_iload mb_309 dX10_spreadOver_68 rfl (e_imul mb_309 dX10_spreadOver_70 ((h.2 (cb_lt.2.mp q1)).2.2.1 (cb_eq.1.mp q2)).1 (e_iload mb_309 dX10_spreadOver_71 rfl (e_iadd mb_309 dX10_spreadOver_73 ((h.2 (cb_lt.2.mp q1)).2.2.1 (cb_eq.1.mp q2)).2.1 (e_iload mb_309 dX10_spreadOver_74 rfl (e_if mb_309 dX10_spreadOver_76 rfl (fun _ => e_iload mb_309 dX10_spreadOver_104 rfl (e_iastore mb_309 dX10_spreadOver_106 (lk_43 hL) (ll_43 hL) ((h.2 (cb_lt.2.mp q1)).2.2.1 (cb_eq.1.mp q2)).2.2.1 (e_iinc (l1 := [some (aR (some 36)), some (aI x1), o2, some (aI x3), some (aI x4), some (aI x5), some (aI x6), some (aI (x7 + (-1))), some (aI ((x1 * 3) + x7)), some (aI 0)]) mb_309 dX10_spreadOver_107 rfl ((h.2 (cb_lt.2.mp q1)).2.2.1 (cb_eq.1.mp q2)).2.2.2.1 rfl (e_goto mb_309 dX10_spreadOver_110 rfl (((h.2 (cb_lt.2.mp q1)).2.2.1 (cb_eq.1.mp q2)).2.2.2.2))))) (fun q => absurd q (by decide))))))))))))) (fun q2 => e_iconst mb_309 dX10_spreadOver_55 cv_iconst_1 (e_goto mb_309 dX10_spreadOver_56 rfl (e_istore (l1 := [some (aR (some 36)), some (aI x1), o2, some (aI x3), some (aI x4), some (aI x5), some (aI x6), some (aI x7), some (aI ((x1 * 3) + x7)), some (aI 1)]) mb_309 dX10_spreadOver_60 rfl (e_aload_n mb_309 dX10_spreadOver_62 rfl (e_getr mb_309 dX10_spreadOver_63 mf_309.1 fs_40993 fk_10_9 (lk_36 hL) (lr_36_9 hL) (e_iload mb_309 dX10_spreadOver_66 rfl (e_iload mb_309 dX10_spreadOver_68 rfl (e_imul mb_309 dX10_spreadOver_70 ((h.2 (cb_lt.2.mp q1)).2.2.2 (cb_eq.2.mp q2)).1 (e_iload mb_309 dX10_spreadOver_71 rfl (e_iadd mb_309 dX10_spreadOver_73 ((h.2 (cb_lt.2.mp q1)).2.2.2 (cb_eq.2.mp q2)).2.1 (e_iload mb_309 dX10_spreadOver_74 rfl (e_if mb_309 dX10_spreadOver_76 rfl (fun q => absurd q (by decide)) (fun _ => e_iload mb_309 dX10_spreadOver_79 rfl (e_aload_n mb_309 dX10_spreadOver_81 rfl (e_getr mb_309 dX10_spreadOver_82 mf_309.1 fs_40977 fk_10_3 (lk_36 hL) (lr_36_3 hL) (e_iload mb_309 dX10_spreadOver_85 rfl (e_ial mb_309 dX10_spreadOver_87 (lk_38 hL) (ll_38 hL) ((h.2 (cb_lt.2.mp q1)).2.2.2 (cb_eq.2.mp q2)).2.2.1 rfl (e_aload_n mb_309 dX10_spreadOver_88 rfl (e_getr mb_309 dX10_spreadOver_89 mf_309.1 fs_40973 fk_10_2 (lk_36 hL) (lr_36_2 hL) (e_iload mb_309 dX10_spreadOver_92 rfl (e_aaload mb_309 dX10_spreadOver_94 (by rw [lk_37 hL]; decide) (ll_37 hL) ((h.2 (cb_lt.2.mp q1)).2.2.2 (cb_eq.2.mp q2)).2.2.2.1.1 ((h.2 (cb_lt.2.mp q1)).2.2.2 (cb_eq.2.mp q2)).2.2.2.1.2 (e_getv mb_309 dX10_spreadOver_95 mf_309.1 fs_41065 (Or.inl fk_9_8) ((h.2 (cb_lt.2.mp q1)).2.2.2 (cb_eq.2.mp q2)).2.2.2.2.1 rfl (e_callS mb_309 dX10_spreadOver_98 mf_309 mf_64 cs_41068 rfl rfl rfl rfl (v_64 hL ((h.2 (cb_lt.2.mp q1)).2.2.2 (cb_eq.2.mp q2)).2.2.2.2.2.1.1 ((h.2 (cb_lt.2.mp q1)).2.2.2 (cb_eq.2.mp q2)).2.2.2.2.2.1.2.1 ((h.2 (cb_lt.2.mp q1)).2.2.2 (cb_eq.2.mp q2)).2.2.2.2.2.1.2.2 (show E _ _ _ _ (_ :: _) _ _ _ _ _ from e_goto mb_309 dX10_spreadOver_101 rfl (e_iastore mb_309 dX10_spreadOver_106 (lk_43 hL) (ll_43 hL) ((h.2 (cb_lt.2.mp q1)).2.2.2 (cb_eq.2.mp q2)).2.2.2.2.2.2.1 (e_iinc (l1 := [some (aR (some 36)), some (aI x1), o2, some (aI x3), some (aI x4), some (aI x5), some (aI x6), some (aI (x7 + (-1))), some (aI ((x1 * 3) + x7)), some (aI 1)]) mb_309 dX10_spreadOver_107 rfl ((h.2 (cb_lt.2.mp q1)).2.2.2 (cb_eq.2.mp q2)).2.2.2.2.2.2.2.1 rfl (e_goto mb_309 dX10_spreadOver_110 rfl (((h.2 (cb_lt.2.mp q1)).2.2.2 (cb_eq.2.mp q2)).2.2.2.2.2.2.2.2))))))))))))))))))))))))))))))))))))))))))
theorem v_309 {N : Nat} {sc : Nat × (Nat → Int)} {I J : IH} {L : LH} {R : RH} {K : KH} {Q : AQ} {k : Nat} {s : Int} (hL : Lay R K) (hI : Inv N I L R K) (hs : Sg I J) (hk : k < 5) (h0 : 0 < I 111 k) (hT : ∀ i, i < NN I k → J 43 i = TT I s k i) (h : ∀ J2, (∀ x j, x ≠ 43 → J2 x j = J x j) → (∀ i, i < NN I (k + 1) → J2 43 i = TT I s (k + 1) i) → Q none J2 L R K) : E sc 309 0 [some (aR (some 36)), some (aI (k : Int)), some (aI (NN I k : Int)), some (aI ((fwB (ftB I s k) (I 111 k).toNat : Nat) : Int)), none, none, none, none, none, none] [] J L R K Q := by
  have hW := (iW hI).1 k hk
  have hn := nW_b hI hk
  have e39 : J 39 k = (nW I k : Int) := by rw [hs 39 k (by unfold S0; omega), hW.1, hn.2.2.2.1 h0]
  have ec : (I 111 k).toNat = nW I k := by have := hn.2.2.2.1 h0; omega
  rw [ec]
  have hN1 : NN I (k + 1) = NN I k * nW I k := rfl
  have h243 := NN_243 hI (k := k + 1) (by omega)
  have h243a := NN_243 hI (k := k) (by omega)
  rw [hN1] at h243
  have hcc : 1 ≤ nW I k ∧ nW I k ≤ 3 := ⟨hn.1, hn.2.1⟩
  have enW : (nW I k : Int) = I 111 k := hn.2.2.2.1 h0
  generalize hc : nW I k = c at *
  have outer : ∀ i : Nat, i ≤ NN I k → ∀ (x : Int) (J2 : IH) (o2 o6 o7 o8 o9 : Option AV), nL o2 → nL o6 → nL o7 → nL o8 → nL o9 → x = (i : Int) - 1 → (∀ x j, x ≠ 43 → J2 x j = J x j) → (∀ j, j < i → J2 43 j = TT I s k j) → (∀ q, i * c ≤ q → q < NN I k * c → J2 43 q = TT I s (k + 1) q) → E sc 309 13 [some (aR (some 36)), some (aI (k : Int)), o2, some (aI ((fwB (ftB I s k) c : Nat) : Int)), some (aI (c : Int)), some (aI x), o6, o7, o8, o9] [] J2 L R K Q := by
    intro i
    induction i with
    | zero =>
      intro hi x J2 o2 o6 o7 o8 o9 n2 n6 n7 n8 n9 hx hj ha hb
      exact w_309_13 n2 n6 n7 n8 n9 hL ⟨fun q1 => h J2 hj (fun q hq => hb q (by omega) (by rw [hN1] at hq; exact hq)), fun q1 => by omega⟩
    | succ i ih =>
      intro hi x J2 o2 o6 o7 o8 o9 n2 n6 n7 n8 n9 hx hj ha hb
      have hx : x = (i : Int) := by omega
      subst hx
      have hic : i ≤ i * c := Nat.le_mul_of_pos_right i (by omega)
      have h1c : (i + 1) * c ≤ NN I k * c := Nat.mul_le_mul_right c hi
      have esc : (i + 1) * c = i * c + c := Nat.succ_mul i c
      have eic : (i : Int) * (c : Int) = ((i * c : Nat) : Int) := (Int.natCast_mul i c).symm
      have e43 := ha i (by omega)
      have rg := TT_rng hI (s := s) k i (by omega)
      have inner : ∀ d : Nat, d ≤ c → ∀ (x7 : Int) (J3 : IH) (o2 o8 o9 : Option AV), nL o2 → nL o8 → nL o9 → x7 = (d : Int) - 1 → (∀ x j, x ≠ 43 → J3 x j = J x j) → (∀ j, j < i → J3 43 j = TT I s k j) → (∀ q, i * c + d ≤ q → q < NN I k * c → J3 43 q = TT I s (k + 1) q) → E sc 309 33 [some (aR (some 36)), some (aI (k : Int)), o2, some (aI ((fwB (ftB I s k) c : Nat) : Int)), some (aI (c : Int)), some (aI (i : Int)), some (aI (TT I s k i)), some (aI x7), o8, o9] [] J3 L R K Q := by
        intro d
        induction d with
        | zero =>
          intro hd x7 J3 o2 o8 o9 n2 n8 n9 hx7 hj3 ha3 hb3
          exact w_309_33 n2 n8 n9 hL ⟨fun q1 => ⟨by omega, ih (by omega) _ _ _ _ _ _ _ n2 nl_i nl_i n8 n9 (by omega) hj3 ha3 (fun q hq1 hq2 => hb3 q (by omega) hq2)⟩, fun q1 => by omega⟩
        | succ d ihd =>
          intro hd x7 J3 o2 o8 o9 n2 n8 n9 hx7 hj3 ha3 hb3
          have hx7 : x7 = (d : Int) := by omega
          subst hx7
          have dd := dm3 (i := i) (d := d) hcc (by omega)
          obtain ⟨w1, w2, w3, w4⟩ := way_k hI hk (d := d) (by omega)
          have eb := fwB_bit (f := ftB I s k) (n := c) (i := d) (by omega) (by omega)
          have es : TT I s (k + 1) (i * c + d) = if 0 < I 111 k ∧ fitsM I (80 + 3 * k + d) s = true then jn (TT I s k i) (I 112 (3 * k + d)) (I 79 (80 + 3 * k + d)) else TT I s k i := by
            rw [TT, hc, dd.1, dd.2]
          have e1 : ((k : Int) * 3 + (d : Int)).toNat = 3 * k + d := by omega
          have e2 : ((i : Int) * (c : Int) + (d : Int)).toNat = i * c + d := by rw [eic]; omega
          have j38 : J3 38 (3 * k + d) = I 112 (3 * k + d) := by rw [hj3 38 _ (by omega), hs 38 _ (by unfold S0; omega)]; exact w3.1
          have t8 := w2.2.1
          have j8 : J3 (rf R 37 (3 * k + d)) 8 = I 79 (80 + 3 * k + d) := by
            have := w2.1.1
            rw [hj3 _ 8 (by omega), hs _ 8 (by unfold S0; omega)]; exact t8.1
          have go : ∀ (v : Int) (o8 o9 : Option AV), nL o8 → nL o9 → v = TT I s (k + 1) (i * c + d) → E sc 309 33 [some (aR (some 36)), some (aI (k : Int)), o2, some (aI ((fwB (ftB I s k) c : Nat) : Int)), some (aI (c : Int)), some (aI (i : Int)), some (aI (TT I s k i)), some (aI ((d : Int) + (-1))), o8, o9] [] (setF J3 43 (i * c + d) v) L R K Q := fun v o8 o9 n8 n9 hv => by
            refine ihd (by omega) _ _ _ _ _ n2 n8 n9 (by omega) (fun x j hx => by rw [setF_c hx]; exact hj3 x j hx) (fun j hj4 => ?_) (fun q hq1 hq2 => ?_)
            · rw [setF_i, if_neg (by omega)]; exact ha3 j hj4
            · rw [setF_i]
              by_cases q3 : q = i * c + d
              · rw [if_pos q3, q3]; exact hv
              · rw [if_neg q3]; exact hb3 q (by omega) hq2
          refine w_309_33 n2 n8 n9 hL ?_
          rw [e1, e2, eic, eb, j38, j8]
          refine ⟨fun q1 => by omega, fun q1 => ⟨by omega, by omega, fun q2 => ⟨by omega, by omega, by omega, by omega, go _ _ _ nl_i nl_i ?_⟩, fun q2 => ⟨by omega, by omega, by omega, ⟨by omega, w1⟩, w2.1.2.1, ⟨rg, w3.2, by omega⟩, by omega, by omega, go _ _ _ nl_i nl_i ?_⟩⟩⟩
          · rw [es]
            by_cases q : ftB I s k d = true
            · rw [if_pos q] at q2; omega
            · rw [if_neg (fun g => q g.2)]
          · rw [es]
            by_cases q : ftB I s k d = true
            · rw [if_pos ⟨h0, q⟩]
            · rw [if_neg q] at q2; exact absurd rfl q2
      refine w_309_13 n2 n6 n7 n8 n9 hL ⟨fun q1 => by omega, fun q1 => ⟨by omega, by omega, ?_⟩⟩
      rw [Int.toNat_natCast, e43]
      exact inner c (Nat.le_refl _) _ _ _ _ _ n2 n8 n9 rfl hj (fun j hj2 => ha j (by omega)) (fun q hq1 hq2 => hb q (by omega) hq2)
  refine w_309_0 hL ?_
  rw [Int.toNat_natCast, e39]
  exact ⟨by omega, by omega, outer _ (Nat.le_refl _) _ _ _ _ _ _ _ nl_i nl_n nl_n nl_n nl_n rfl (fun _ _ _ => rfl) hT (fun q h1 h2 => by omega)⟩
theorem w_308_0 {sc : Nat × (Nat → Int)} {I : IH} {L : LH} {R : RH} {K : KH} {Q : AQ} {a0 : Int} {ka kk : Int} (hL : Lay R K) (h : ((RulesOK I R K) ∧ ((0 : Int) ≤ 5 ∧ 5 < (7 : Int)) ∧ (GathS I R ka kk)) ∧ E sc 308 19 [some (aR (some 36)), some (aI a0), some (aI 1), some (aI 0)] [] (setF I 43 0 (ansT I L R 5 a0 ka kk (-1))) L R K Q) : E sc 308 0 [some (aR (some 36)), some (aI a0), none, none] [] I L R K Q :=
  e_aload_n mb_308 dX10_spreadTops_0 rfl (e_getr mb_308 dX10_spreadTops_1 mf_308.1 fs_40993 fk_10_9 (lk_36 hL) (lr_36_9 hL) (e_iconst mb_308 dX10_spreadTops_4 cv_iconst_0 (e_aload_n mb_308 dX10_spreadTops_5 rfl (e_getr mb_308 dX10_spreadTops_6 mf_308.1 fs_40999 fk_10_0 (lk_36 hL) (lr_36_0 hL) (e_iconst mb_308 dX10_spreadTops_9 cv_iconst_5 (e_iload_n mb_308 dX10_spreadTops_10 rfl (e_callV mb_308 dX10_spreadTops_11 mf_308 mf_237 cs_41049 rfl rfl rfl rfl (lk_2 hL) rfl (show E _ _ _ [some (aR (some 2)), some (aI 5), some (aI a0)] [] _ _ _ _ _ from e_aload_n mb_237 dX5_top_0 rfl (e_iconst mb_237 dX5_top_1 cv_iconst_m1 (e_iload_n mb_237 dX5_top_2 rfl (e_iload_n mb_237 dX5_top_3 rfl (e_callV mb_237 dX5_top_4 mf_237 mf_236 cs_20540 rfl rfl rfl rfl (lk_2 hL) rfl (v_236s hL h.1.1 h.1.2.1 h.1.2.2 (show E _ _ _ _ (_ :: _) _ _ _ _ _ from e_ireturn mb_237 dX5_top_7 ri_237 (show E _ _ _ _ [aI (ansT I L R 5 a0 ka kk (-1)), aI 0, aR (some 43)] _ _ _ _ _ from e_iastore mb_308 dX10_spreadTops_14 (lk_43 hL) (ll_43 hL) ⟨by decide, by decide⟩ (e_iconst mb_308 dX10_spreadTops_15 cv_iconst_1 (e_istore_n (l1 := [some (aR (some 36)), some (aI a0), some (aI 1), none]) mb_308 dX10_spreadTops_16 rfl (e_iconst mb_308 dX10_spreadTops_17 cv_iconst_0 (e_istore_n (l1 := [some (aR (some 36)), some (aI a0), some (aI 1), some (aI 0)]) mb_308 dX10_spreadTops_18 rfl h.2)))))))))))))))))))
theorem w_308_19 {sc : Nat × (Nat → Int)} {I : IH} {L : LH} {R : RH} {K : KH} {Q : AQ} {x1 x2 x3 : Int} (hL : Lay R K) (h : ((5 ≤ x3 → Q none I L R K) ∧ (x3 < 5 → (((0 : Int) ≤ x3 ∧ x3 < (5 : Int))) ∧ (((I 39 x3.toNat) ≤ 0 → ((-2147483648 : Int) ≤ x3 + 1 ∧ x3 + 1 < (2147483648 : Int)) ∧ E sc 308 19 [some (aR (some 36)), some (aI x1), some (aI x2), some (aI (x3 + 1))] [] I L R K Q) ∧ (0 < (I 39 x3.toNat) → E sc 308 39 [some (aR (some 36)), some (aI x1), some (aI x2), some (aI x3)] [aI x1, aI x3, aR (some 36), aI x2, aI x3, aR (some 36)] I L R K Q))))) : E sc 308 19 [some (aR (some 36)), some (aI x1), some (aI x2), some (aI x3)] [] I L R K Q :=
  e_iload_n mb_308 dX10_spreadTops_19 rfl (e_iconst mb_308 dX10_spreadTops_20 cv_iconst_5 (e_icmp mb_308 dX10_spreadTops_21 rfl (fun q1 => e_return mb_308 dX10_spreadTops_60 rv_308 (h.1 (cb_ge.1.mp q1))) (fun q1 => e_aload_n mb_308 dX10_spreadTops_24 rfl (e_getr mb_308 dX10_spreadTops_25 mf_308.1 fs_40981 fk_10_4 (lk_36 hL) (lr_36_4 hL) (e_iload_n mb_308 dX10_spreadTops_28 rfl (e_ial mb_308 dX10_spreadTops_29 (lk_39 hL) (ll_39 hL) (h.2 (cb_ge.2.mp q1)).1 rfl (e_if mb_308 dX10_spreadTops_30 rfl (fun q2 => e_iinc (l1 := [some (aR (some 36)), some (aI x1), some (aI x2), some (aI (x3 + 1))]) mb_308 dX10_spreadTops_54 rfl ((h.2 (cb_ge.2.mp q1)).2.1 (cb_le.1.mp q2)).1 rfl (e_goto mb_308 dX10_spreadTops_57 rfl (((h.2 (cb_ge.2.mp q1)).2.1 (cb_le.1.mp q2)).2))) (fun q2 => e_aload_n mb_308 dX10_spreadTops_33 rfl (e_iload_n mb_308 dX10_spreadTops_34 rfl (e_iload_n mb_308 dX10_spreadTops_35 rfl (e_aload_n mb_308 dX10_spreadTops_36 rfl (e_iload_n mb_308 dX10_spreadTops_37 rfl (e_iload_n mb_308 dX10_spreadTops_38 rfl (((h.2 (cb_ge.2.mp q1)).2.2 (cb_le.2.mp q2))))))))))))))))
-- 308_42: a call at once
theorem w_308_45 {sc : Nat × (Nat → Int)} {I : IH} {L : LH} {R : RH} {K : KH} {Q : AQ} {x1 x2 x3 : Int} (hL : Lay R K) (h : (((0 : Int) ≤ x3 ∧ x3 < (5 : Int))) ∧ ((-2147483648 : Int) ≤ x2 * (I 39 x3.toNat) ∧ x2 * (I 39 x3.toNat) < (2147483648 : Int)) ∧ ((-2147483648 : Int) ≤ x3 + 1 ∧ x3 + 1 < (2147483648 : Int)) ∧ E sc 308 19 [some (aR (some 36)), some (aI x1), some (aI (x2 * (I 39 x3.toNat))), some (aI (x3 + 1))] [] I L R K Q) : E sc 308 45 [some (aR (some 36)), some (aI x1), some (aI x2), some (aI x3)] [] I L R K Q :=
  e_iload_n mb_308 dX10_spreadTops_45 rfl (e_aload_n mb_308 dX10_spreadTops_46 rfl (e_getr mb_308 dX10_spreadTops_47 mf_308.1 fs_40981 fk_10_4 (lk_36 hL) (lr_36_4 hL) (e_iload_n mb_308 dX10_spreadTops_50 rfl (e_ial mb_308 dX10_spreadTops_51 (lk_39 hL) (ll_39 hL) h.1 rfl (e_imul mb_308 dX10_spreadTops_52 h.2.1 (e_istore_n (l1 := [some (aR (some 36)), some (aI x1), some (aI (x2 * (I 39 x3.toNat))), some (aI x3)]) mb_308 dX10_spreadTops_53 rfl (e_iinc (l1 := [some (aR (some 36)), some (aI x1), some (aI (x2 * (I 39 x3.toNat))), some (aI (x3 + 1))]) mb_308 dX10_spreadTops_54 rfl h.2.2.1 rfl (e_goto mb_308 dX10_spreadTops_57 rfl (h.2.2.2)))))))))
theorem v_308 {N : Nat} {sc : Nat × (Nat → Int)} {I J : IH} {L : LH} {R : RH} {K : KH} {Q : AQ} {s : Int} (hL : Lay R K) (hp : Inv N I L R K ∧ NearS I R J ∧ 0 ≤ s ∧ s < 1536) (h : ∀ J2, (∀ x j, x ≠ 43 → J2 x j = J x j) → (∀ p, p < NN I 5 → J2 43 p = TT I s 5 p) → Q none J2 L R K) : E sc 308 0 [some (aR (some 36)), some (aI s), none, none] [] J L R K Q := by
  obtain ⟨hI, hN, hs⟩ := hp
  have key : (fun k : Nat => ∀ (x y : Int) (J2 : IH), x = (NN I k : Int) → y = (k : Int) → (∀ x j, x ≠ 43 → J2 x j = J x j) → (∀ p, p < NN I k → J2 43 p = TT I s k p) → E sc 308 19 [some (aR (some 36)), some (aI s), some (aI x), some (aI y)] [] J2 L R K Q) 0 := by
    refine loop_up (C := fun k : Nat => ∀ (x y : Int) (J2 : IH), x = (NN I k : Int) → y = (k : Int) → (∀ x j, x ≠ 43 → J2 x j = J x j) → (∀ p, p < NN I k → J2 43 p = TT I s k p) → E sc 308 19 [some (aR (some 36)), some (aI s), some (aI x), some (aI y)] [] J2 L R K Q) 5 ?_ ?_
    · intro k hk hc x y J2 hx hy hj hT
      subst hy
      subst hx
      have hs2 : Sg I J2 := fun x j q => by rw [hj x j (fun e => q (by unfold S0; omega))]; exact hN.1 x j q
      have hW := (iW hI).1 k hk
      have hn := nW_b hI hk
      have e39 : J2 39 k = I 111 k := by rw [hs2 39 k (by unfold S0; omega)]; exact hW.1
      have h243 := NN_243 hI (k := k + 1) (by omega)
      have hN1 : NN I (k + 1) = NN I k * nW I k := rfl
      rcases Int.lt_or_le 0 (I 111 k) with q | q
      · have f39 : ∀ J3 : IH, (∀ x j, x ≠ 43 → J3 x j = J2 x j) → J3 39 k = (nW I k : Int) := fun J3 h3 => by rw [h3 39 k (by omega), e39]; exact (hn.2.2.2.1 q).symm
        refine w_308_19 hL ?_
        simp only [Int.toNat_natCast]
        rw [e39]
        refine ⟨fun q1 => by omega, fun q1 => ⟨by omega, fun q2 => by omega, fun q2 => ?_⟩⟩
        refine e_callV mb_308 dX10_spreadTops_39 mf_308 mf_310 cs_41058 rfl rfl rfl rfl (lk_36 hL) rfl  (v_310 hL hI hs2 hk hs (show E _ _ _ _ (_ :: _) _ _ _ _ _ from e_callV mb_308 dX10_spreadTops_42 mf_308 mf_309 cs_41061 rfl rfl rfl rfl (lk_36 hL) rfl  (v_309 hL hI hs2 hk q hT (fun J3 h3 hT3 => (show E _ _ _ _ [] _ _ _ _ _ from w_308_45 hL ?_)))))
        simp only [Int.toNat_natCast]
        rw [f39 J3 h3, ← Int.natCast_mul, ← hN1]
        exact ⟨by omega, by omega, by omega, hc _ _ _ rfl (by omega) (fun x j hx => by rw [h3 x j hx]; exact hj x j hx) hT3⟩
      · have e1 : nW I k = 1 := hn.2.2.1 q
        have eN : NN I (k + 1) = NN I k := by rw [hN1, e1, Nat.mul_one]
        have eT : ∀ p, TT I s (k + 1) p = TT I s k p := fun p => by
          rw [TT, if_neg (fun g => by omega), e1, Nat.div_one]
        refine w_308_19 hL ?_
        simp only [Int.toNat_natCast]
        rw [e39]
        exact ⟨fun q1 => by omega, fun q1 => ⟨by omega, fun q2 => ⟨by omega, hc _ _ _ (by rw [eN]) (by omega) hj (fun p hp => by rw [eT]; exact hT p (by rw [eN] at hp; exact hp))⟩, fun q2 => by omega⟩⟩
    · intro x y J2 hx hy hj hT
      subst hy
      subst hx
      exact w_308_19 hL ⟨fun q1 => h J2 hj hT, fun q1 => by omega⟩
  refine w_308_0 (ka := I 77 0) (kk := I 77 0) hL ⟨⟨near_rules hI hN, by omega, hN.2.1⟩, ?_⟩
  rw [near_top hI hN (t := fun _ => 0) hs]
  refine key _ _ _ rfl rfl (fun x j hx => setF_c hx) (fun p hp => ?_)
  have hp : p < 1 := hp
  rw [show p = 0 by omega, setF_s]
  rfl
theorem w_307_0 {sc : Nat × (Nat → Int)} {I : IH} {L : LH} {R : RH} {K : KH} {Q : AQ} {a0 : Int} (hL : Lay R K) (h : E sc 307 2 [some (aR (some 36)), some (aI a0), some (aI 0)] [] I L R K Q) : E sc 307 0 [some (aR (some 36)), some (aI a0), none] [] I L R K Q :=
  e_iconst mb_307 dX10_keepBy_0 cv_iconst_0 (e_istore_n (l1 := [some (aR (some 36)), some (aI a0), some (aI 0)]) mb_307 dX10_keepBy_1 rfl h)
theorem w_307_2 {sc : Nat × (Nat → Int)} {I : IH} {L : LH} {R : RH} {K : KH} {Q : AQ} {x1 x2 : Int} (hL : Lay R K) (h : ((x1 ≤ x2 → Q none I L R K) ∧ (x2 < x1 → (((0 : Int) ≤ x2 ∧ x2 < (243 : Int))) ∧ (((0 : Int) ≤ x2 ∧ x2 < (243 : Int))) ∧ ((0 ≤ (I 43 x2.toNat) ∧ (I 43 x2.toNat) < 65536)) ∧ (((0 ≤ I 36 8 ∧ I 36 8 ≤ 5) ∧ ∀ j : Nat, (j : Int) < I 36 8 → 0 ≤ I 41 j ∧ 0 ≤ I 42 j ∧ I 42 j ≤ 792)) ∧ ((-2147483648 : Int) ≤ (I 44 x2.toNat) + (sumTo (fun (j : Nat) => (if I 41 j = ((I 43 x2.toNat) % 256 - 3) then I 42 j else 0 : Int)) (I 36 8).toNat) ∧ (I 44 x2.toNat) + (sumTo (fun (j : Nat) => (if I 41 j = ((I 43 x2.toNat) % 256 - 3) then I 42 j else 0 : Int)) (I 36 8).toNat) < (2147483648 : Int)) ∧ (((0 : Int) ≤ x2 ∧ x2 < (243 : Int))) ∧ ((-2147483648 : Int) ≤ x2 + 1 ∧ x2 + 1 < (2147483648 : Int)) ∧ E sc 307 2 [some (aR (some 36)), some (aI x1), some (aI (x2 + 1))] [] (setF I 44 x2.toNat ((I 44 x2.toNat) + (sumTo (fun (j : Nat) => (if I 41 j = ((I 43 x2.toNat) % 256 - 3) then I 42 j else 0 : Int)) (I 36 8).toNat))) L R K Q))) : E sc 307 2 [some (aR (some 36)), some (aI x1), some (aI x2)] [] I L R K Q :=
  e_iload_n mb_307 dX10_keepBy_2 rfl (e_iload_n mb_307 dX10_keepBy_3 rfl (e_icmp mb_307 dX10_keepBy_4 rfl (fun q1 => e_return mb_307 dX10_keepBy_35 rv_307 (h.1 (cb_ge.1.mp q1))) (fun q1 => e_aload_n mb_307 dX10_keepBy_7 rfl (e_getr mb_307 dX10_keepBy_8 mf_307.1 fs_40996 fk_10_10 (lk_36 hL) (lr_36_10 hL) (e_iload_n mb_307 dX10_keepBy_11 rfl (e_dup2 mb_307 dX10_keepBy_12 ⟨rfl, rfl⟩ (e_ial mb_307 dX10_keepBy_13 (lk_44 hL) (ll_44 hL) (h.2 (cb_ge.2.mp q1)).1 rfl (e_aload_n mb_307 dX10_keepBy_14 rfl (e_aload_n mb_307 dX10_keepBy_15 rfl (e_getr mb_307 dX10_keepBy_16 mf_307.1 fs_40993 fk_10_9 (lk_36 hL) (lr_36_9 hL) (e_iload_n mb_307 dX10_keepBy_19 rfl (e_ial mb_307 dX10_keepBy_20 (lk_43 hL) (ll_43 hL) (h.2 (cb_ge.2.mp q1)).2.1 rfl (e_callS mb_307 dX10_keepBy_21 mf_307 mf_63 cs_41026 rfl rfl rfl rfl (v_63 hL (h.2 (cb_ge.2.mp q1)).2.2.1 (show E _ _ _ _ (_ :: _) _ _ _ _ _ from e_callV mb_307 dX10_keepBy_24 mf_307 mf_314 cs_41030 rfl rfl rfl rfl (lk_36 hL) rfl (v_314x hL (h.2 (cb_ge.2.mp q1)).2.2.2.1 (show E _ _ _ _ (_ :: _) _ _ _ _ _ from e_iadd mb_307 dX10_keepBy_27 (h.2 (cb_ge.2.mp q1)).2.2.2.2.1 (e_iastore mb_307 dX10_keepBy_28 (lk_44 hL) (ll_44 hL) (h.2 (cb_ge.2.mp q1)).2.2.2.2.2.1 (e_iinc (l1 := [some (aR (some 36)), some (aI x1), some (aI (x2 + 1))]) mb_307 dX10_keepBy_29 rfl (h.2 (cb_ge.2.mp q1)).2.2.2.2.2.2.1 rfl (e_goto mb_307 dX10_keepBy_32 rfl ((h.2 (cb_ge.2.mp q1)).2.2.2.2.2.2.2)))))))))))))))))))))
theorem v_307 {N : Nat} {sc : Nat × (Nat → Int)} {I J : IH} {L : LH} {R : RH} {K : KH} {Q : AQ} {s : Int} {W : Nat} (hL : Lay R K) (hp : Inv N I L R K ∧ AskOK I J s ∧ W ≤ 243 ∧ (∀ p, p < W → J 43 p = TT I s 5 p) ∧ ∀ p, p < W → 0 ≤ J 44 p ∧ J 44 p ≤ 10000000) (h : ∀ J2, (∀ x j, x ≠ 44 → J2 x j = J x j) → (∀ p, p < W → J2 44 p = J 44 p + conI I s (TT I s 5 p % 256 - 3)) → Q none J2 L R K) : E sc 307 0 [some (aR (some 36)), some (aI (W : Int)), none] [] J L R K Q := by
  obtain ⟨hI, hA, hW, hT, hb⟩ := hp
  have key : (fun m : Nat => ∀ (y : Int) (J2 : IH), y = (m : Int) → (∀ x j, x ≠ 44 → J2 x j = J x j) → (∀ p, p < m → J2 44 p = J 44 p + conI I s (TT I s 5 p % 256 - 3)) → (∀ p, m ≤ p → J2 44 p = J 44 p) → E sc 307 2 [some (aR (some 36)), some (aI (W : Int)), some (aI y)] [] J2 L R K Q) 0 := by
    refine loop_up (C := fun m : Nat => ∀ (y : Int) (J2 : IH), y = (m : Int) → (∀ x j, x ≠ 44 → J2 x j = J x j) → (∀ p, p < m → J2 44 p = J 44 p + conI I s (TT I s 5 p % 256 - 3)) → (∀ p, m ≤ p → J2 44 p = J 44 p) → E sc 307 2 [some (aR (some 36)), some (aI (W : Int)), some (aI y)] [] J2 L R K Q) W ?_ ?_
    · intro m hm hc y J2 hy hj ha hb2
      subst hy
      have e43 : J2 43 m = TT I s 5 m := by rw [hj 43 m (by omega)]; exact hT m hm
      have e44 := hb2 m (Nat.le_refl _)
      have rg := TT_rng hI (s := s) 5 m (by omega)
      have bm := hb m hm
      have e36 : J2 36 8 = J 36 8 := hj 36 8 (by omega)
      have ac : ∀ e, sumTo (fun (j : Nat) => (if J2 41 j = e then J2 42 j else 0 : Int)) (J2 36 8).toNat = conI I s e := fun e => by
        rw [e36, ← hA.2.2 e]
        exact sumTo_congr _ (fun j _ => by rw [hj 41 j (by omega), hj 42 j (by omega)])
      have bc : 0 ≤ conI I s (TT I s 5 m % 256 - 3) ∧ conI I s (TT I s 5 m % 256 - 3) ≤ 3960 := by
        unfold conI
        split
        · have := conP_b hI (s := s) (e := TT I s 5 m % 256 - 3) 5
          omega
        · omega
      refine w_307_2 hL ?_
      simp only [Int.toNat_natCast]
      rw [ac, e43, e44]
      refine ⟨fun q1 => by omega, fun q1 => ⟨by omega, by omega, rg, ⟨by rw [e36]; exact hA.1, fun j hj2 => by rw [hj 41 j (by omega), hj 42 j (by omega)]; rw [e36] at hj2; exact hA.2.1 j hj2⟩, by omega, by omega, by omega, hc _ _ (by omega) (fun x j hx => by rw [setF_c hx]; exact hj x j hx) (fun p hp => ?_) (fun p hp => ?_)⟩⟩
      · rw [setF_i]
        by_cases q : p = m
        · rw [if_pos q, q]
        · rw [if_neg q]; exact ha p (by omega)
      · rw [setF_i, if_neg (by omega)]; exact hb2 p (by omega)
    · intro y J2 hy hj ha hb2
      subst hy
      exact w_307_2 hL ⟨fun q1 => h J2 hj ha, fun q1 => by omega⟩
  exact w_307_0 hL (key _ _ rfl (fun _ _ _ => rfl) (fun p hp => by omega) (fun _ _ => rfl))
theorem v_307y {N : Nat} {sc : Nat × (Nat → Int)} {I J : IH} {L : LH} {R : RH} {K : KH} {Q : AQ} {a0 s : Int} (hL : Lay R K) (hp : Inv N I L R K ∧ a0 = (NN I 5 : Int) ∧ AskOK I J s ∧ (∀ p, p < NN I 5 → J 43 p = TT I s 5 p) ∧ ∀ p, p < NN I 5 → 0 ≤ J 44 p ∧ J 44 p ≤ 10000000) (h : ∀ J2, (∀ x j, x ≠ 44 → J2 x j = J x j) → (∀ p, p < NN I 5 → J2 44 p = J 44 p + conI I s (TT I s 5 p % 256 - 3)) → Q none J2 L R K) : E sc 307 0 [some (aR (some 36)), some (aI a0), none] [] J L R K Q := by
  obtain ⟨hI, rfl, hA, hT, hb⟩ := hp
  exact v_307 hL ⟨hI, hA, NN_243 hI (Nat.le_refl _), hT, hb⟩ h
/-- what a place keeps -/
def plK (I : IH) : Nat → Int := fun p => KPp I p 1536
def rDg (I : IH) (p : Nat) : Nat → Nat
  | 0 => p
  | j + 1 => rDg I p j / nW I (4 - j)
def dgP (I : IH) (p : Nat) : Nat → Nat := fun k => rDg I p (4 - k) % nW I k
/-- the code of a place's writing -/
def wrP (I : IH) (p : Nat) : Int := (dgP I p 0 : Int) + 4 * (dgP I p 1 : Int) + 16 * (dgP I p 2 : Int) + 64 * (dgP I p 3 : Int) + 256 * (dgP I p 4 : Int)
theorem w_305_0 {sc : Nat × (Nat → Int)} {I : IH} {L : LH} {R : RH} {K : KH} {Q : AQ} {a0 : Int} (hL : Lay R K) (h : E sc 305 7 [some (aR (some 36)), some (aI a0), some (aI a0), some (aI 0), some (aI 4), none] [] I L R K Q) : E sc 305 0 [some (aR (some 36)), some (aI a0), none, none, none, none] [] I L R K Q :=
  e_iload_n mb_305 dX10_writingAt_0 rfl (e_istore_n (l1 := [some (aR (some 36)), some (aI a0), some (aI a0), none, none, none]) mb_305 dX10_writingAt_1 rfl (e_iconst mb_305 dX10_writingAt_2 cv_iconst_0 (e_istore_n (l1 := [some (aR (some 36)), some (aI a0), some (aI a0), some (aI 0), none, none]) mb_305 dX10_writingAt_3 rfl (e_iconst mb_305 dX10_writingAt_4 cv_iconst_4 (e_istore (l1 := [some (aR (some 36)), some (aI a0), some (aI a0), some (aI 0), some (aI 4), none]) mb_305 dX10_writingAt_5 rfl h)))))
theorem w_305_7 {sc : Nat × (Nat → Int)} {I : IH} {L : LH} {R : RH} {K : KH} {Q : AQ} {x2 x3 x4 : Int} {o1 o5 : Option AV} (no1 : nL o1) (no5 : nL o5) (hL : Lay R K) (h : ((x4 < 0 → Q (some (aI x3)) I L R K) ∧ (0 ≤ x4 → (((0 : Int) ≤ x4 ∧ x4 < (5 : Int))) ∧ ((-2147483648 : Int) ≤ x3 * 4 ∧ x3 * 4 < (2147483648 : Int)) ∧ (((0 : Int) ≤ x2 ∧ x2 < (2147483648 : Int)) ∧ (0 : Int) < (max (I 39 x4.toNat) 1) ∧ (max (I 39 x4.toNat) 1) < (2147483648 : Int)) ∧ ((-2147483648 : Int) ≤ (x3 * 4) + (x2 % (max (I 39 x4.toNat) 1)) ∧ (x3 * 4) + (x2 % (max (I 39 x4.toNat) 1)) < (2147483648 : Int)) ∧ (((0 : Int) ≤ x2 ∧ x2 < (2147483648 : Int)) ∧ (0 : Int) < (max (I 39 x4.toNat) 1) ∧ (max (I 39 x4.toNat) 1) < (2147483648 : Int)) ∧ ((-2147483648 : Int) ≤ x4 + (-1) ∧ x4 + (-1) < (2147483648 : Int)) ∧ E sc 305 7 [some (aR (some 36)), o1, some (aI (x2 / (max (I 39 x4.toNat) 1))), some (aI ((x3 * 4) + (x2 % (max (I 39 x4.toNat) 1)))), some (aI (x4 + (-1))), some (aI (max (I 39 x4.toNat) 1))] [] I L R K Q))) : E sc 305 7 [some (aR (some 36)), o1, some (aI x2), some (aI x3), some (aI x4), o5] [] I L R K Q :=
  e_iload mb_305 dX10_writingAt_7 rfl (e_if mb_305 dX10_writingAt_9 rfl (fun q1 => e_iload_n mb_305 dX10_writingAt_45 rfl (e_ireturn mb_305 dX10_writingAt_46 ri_305 (h.1 (cb_lt.1.mp q1)))) (fun q1 => e_aload_n mb_305 dX10_writingAt_12 rfl (e_getr mb_305 dX10_writingAt_13 mf_305.1 fs_40981 fk_10_4 (lk_36 hL) (lr_36_4 hL) (e_iload mb_305 dX10_writingAt_16 rfl (e_ial mb_305 dX10_writingAt_18 (lk_39 hL) (ll_39 hL) (h.2 (cb_lt.2.mp q1)).1 rfl (e_iconst mb_305 dX10_writingAt_19 cv_iconst_1 (e_max mb_305 dX10_writingAt_20 mf_305 cs_41011 rfl rfl (e_istore (l1 := [some (aR (some 36)), o1, some (aI x2), some (aI x3), some (aI x4), some (aI (max (I 39 x4.toNat) 1))]) mb_305 dX10_writingAt_23 rfl (e_iload_n mb_305 dX10_writingAt_25 rfl (e_iconst mb_305 dX10_writingAt_26 cv_iconst_4 (e_imul mb_305 dX10_writingAt_27 (h.2 (cb_lt.2.mp q1)).2.1 (e_iload_n mb_305 dX10_writingAt_28 rfl (e_iload mb_305 dX10_writingAt_29 rfl (e_irem mb_305 dX10_writingAt_31 (h.2 (cb_lt.2.mp q1)).2.2.1 (e_iadd mb_305 dX10_writingAt_32 (h.2 (cb_lt.2.mp q1)).2.2.2.1 (e_istore_n (l1 := [some (aR (some 36)), o1, some (aI x2), some (aI ((x3 * 4) + (x2 % (max (I 39 x4.toNat) 1)))), some (aI x4), some (aI (max (I 39 x4.toNat) 1))]) mb_305 dX10_writingAt_33 rfl (e_iload_n mb_305 dX10_writingAt_34 rfl (e_iload mb_305 dX10_writingAt_35 rfl (e_idiv mb_305 dX10_writingAt_37 (h.2 (cb_lt.2.mp q1)).2.2.2.2.1 (e_istore_n (l1 := [some (aR (some 36)), o1, some (aI (x2 / (max (I 39 x4.toNat) 1))), some (aI ((x3 * 4) + (x2 % (max (I 39 x4.toNat) 1)))), some (aI x4), some (aI (max (I 39 x4.toNat) 1))]) mb_305 dX10_writingAt_38 (aset_nl no1 rfl rfl rfl) (e_iinc (l1 := [some (aR (some 36)), o1, some (aI (x2 / (max (I 39 x4.toNat) 1))), some (aI ((x3 * 4) + (x2 % (max (I 39 x4.toNat) 1)))), some (aI (x4 + (-1))), some (aI (max (I 39 x4.toNat) 1))]) mb_305 dX10_writingAt_39 rfl (h.2 (cb_lt.2.mp q1)).2.2.2.2.2.1 rfl (e_goto mb_305 dX10_writingAt_42 rfl ((h.2 (cb_lt.2.mp q1)).2.2.2.2.2.2)))))))))))))))))))))))
theorem v_305 {N : Nat} {sc : Nat × (Nat → Int)} {I J : IH} {L : LH} {R : RH} {K : KH} {Q : AQ} {p : Nat} (hL : Lay R K) (hI : Inv N I L R K) (hs : Sg I J) (hp : p < 243) (h : Q (some (aI (wrP I p))) J L R K) : E sc 305 0 [some (aR (some 36)), some (aI (p : Int)), none, none, none, none] [] J L R K Q := by
  have mx : ∀ k, k < 5 → max (J 39 k) 1 = (nW I k : Int) := fun k hk => by
    rw [hs 39 k (by unfold S0; omega), ((iW hI).1 k hk).1]
    exact (nW_b hI hk).2.2.2.2
  have rb : ∀ j, rDg I p j ≤ p := by
    intro j
    induction j with
    | zero => exact Nat.le_refl _
    | succ j ih => exact Nat.le_trans (Nat.div_le_self _ _) ih
  have st : ∀ (k : Nat) (x y : Int) (o1 o5 : Option AV), k < 5 → nL o1 → nL o5 → x = (rDg I p (4 - k) : Int) → 0 ≤ y → y ≤ 400 → (∀ o5, nL o5 → E sc 305 7 [some (aR (some 36)), o1, some (aI ((rDg I p (4 - k + 1) : Nat) : Int)), some (aI (y * 4 + (dgP I p k : Int))), some (aI ((k : Int) - 1)), o5] [] J L R K Q) → E sc 305 7 [some (aR (some 36)), o1, some (aI x), some (aI y), some (aI (k : Int)), o5] [] J L R K Q := by
    intro k x y o1 o5 hk n1 n5 hx hy hy2 hc
    have hn := nW_b hI hk
    have hb := rb (4 - k)
    have ed : x % (nW I k : Int) = (dgP I p k : Int) := by rw [hx]; exact (Int.natCast_emod _ _).symm
    have eq : x / (nW I k : Int) = ((rDg I p (4 - k + 1) : Nat) : Int) := by
      rw [hx, rDg, show 4 - (4 - k) = k by omega]
      exact (Int.natCast_ediv _ _).symm
    have bd : (dgP I p k : Int) < 3 := by
      have : dgP I p k < nW I k := Nat.mod_lt _ (by omega)
      omega
    refine w_305_7 n1 n5 hL ?_
    simp only [Int.toNat_natCast]
    rw [mx k hk, ed, eq]
    exact ⟨fun q1 => by omega, fun q1 => ⟨by omega, by omega, by omega, by omega, by omega, by omega, hc _ nl_i⟩⟩
  have bd : ∀ k, k < 5 → (dgP I p k : Int) < 3 ∧ (0 : Int) ≤ (dgP I p k : Int) := fun k hk => by
    have hn := nW_b hI hk
    have : dgP I p k < nW I k := Nat.mod_lt _ (by omega)
    omega
  have b0 := bd 0 (by omega)
  have b1 := bd 1 (by omega)
  have b2 := bd 2 (by omega)
  have b3 := bd 3 (by omega)
  have b4 := bd 4 (by omega)
  refine w_305_0 hL (st 4 _ _ _ _ (by omega) nl_i nl_n rfl (by omega) (by omega) (fun o5 n5 => ?_))
  refine st 3 _ _ _ _ (by omega) nl_i n5 rfl (by omega) (by omega) (fun o5 n5 => ?_)
  refine st 2 _ _ _ _ (by omega) nl_i n5 rfl (by omega) (by omega) (fun o5 n5 => ?_)
  refine st 1 _ _ _ _ (by omega) nl_i n5 rfl (by omega) (by omega) (fun o5 n5 => ?_)
  refine st 0 _ _ _ _ (by omega) nl_i n5 rfl (by omega) (by omega) (fun o5 n5 => ?_)
  refine w_305_7 nl_i n5 hL ⟨fun q1 => ?_, fun q1 => by omega⟩
  have e : ((((0 * 4 + (dgP I p 4 : Int)) * 4 + (dgP I p 3 : Int)) * 4 + (dgP I p 2 : Int)) * 4 + (dgP I p 1 : Int)) * 4 + (dgP I p 0 : Int) = wrP I p := by unfold wrP; omega
  rw [e]
  exact h
theorem w_303_0 {sc : Nat × (Nat → Int)} {I : IH} {L : LH} {R : RH} {K : KH} {Q : AQ} {a0 : Int} {nb : Nat} (hL : Lay R K) (h : ((Inv nb I L R K ∧ a0 = I 77 0)) ∧ (∀ (J1 : IH), (NearS I R J1) → E sc 303 9 [some (aR (some 36)), some (aI a0), some (aI 1), some (aI 0), none] [] J1 L R K Q)) : E sc 303 0 [some (aR (some 36)), some (aI a0), none, none, none] [] I L R K Q :=
  e_aload_n mb_303 dX10_placeOfBest_0 rfl (e_iload_n mb_303 dX10_placeOfBest_1 rfl (e_callV mb_303 dX10_placeOfBest_2 mf_303 mf_312 cs_41016 rfl rfl rfl rfl (lk_36 hL) rfl (v_312 hL h.1 (fun J1 hp2 => (show E _ _ _ _ [] _ _ _ _ _ from e_iconst mb_303 dX10_placeOfBest_5 cv_iconst_1 (e_istore_n (l1 := [some (aR (some 36)), some (aI a0), some (aI 1), none, none]) mb_303 dX10_placeOfBest_6 rfl (e_iconst mb_303 dX10_placeOfBest_7 cv_iconst_0 (e_istore_n (l1 := [some (aR (some 36)), some (aI a0), some (aI 1), some (aI 0), none]) mb_303 dX10_placeOfBest_8 rfl ((h.2 J1 hp2))))))))))
theorem w_303_9 {sc : Nat × (Nat → Int)} {I : IH} {L : LH} {R : RH} {K : KH} {Q : AQ} {x2 x3 : Int} {o1 o4 : Option AV} (no1 : nL o1) (no4 : nL o4) (hL : Lay R K) (h : ((5 ≤ x3 → ((K.1 44 = 100) ∧ (K.2.1 44 ≤ 65536)) ∧ E sc 303 43 [some (aR (some 36)), o1, some (aI x2), some (aI 0), o4] [] (fillF I 44 (K.2.1 44) 0) L R K Q) ∧ (x3 < 5 → (((0 : Int) ≤ x3 ∧ x3 < (5 : Int))) ∧ ((-2147483648 : Int) ≤ x2 * (max (I 39 x3.toNat) 1) ∧ x2 * (max (I 39 x3.toNat) 1) < (2147483648 : Int)) ∧ ((-2147483648 : Int) ≤ x3 + 1 ∧ x3 + 1 < (2147483648 : Int)) ∧ E sc 303 9 [some (aR (some 36)), o1, some (aI (x2 * (max (I 39 x3.toNat) 1))), some (aI (x3 + 1)), o4] [] I L R K Q))) : E sc 303 9 [some (aR (some 36)), o1, some (aI x2), some (aI x3), o4] [] I L R K Q :=
  e_iload_n mb_303 dX10_placeOfBest_9 rfl (e_iconst mb_303 dX10_placeOfBest_10 cv_iconst_5 (e_icmp mb_303 dX10_placeOfBest_11 rfl (fun q1 => e_aload_n mb_303 dX10_placeOfBest_33 rfl (e_getr mb_303 dX10_placeOfBest_34 mf_303.1 fs_40996 fk_10_10 (lk_36 hL) (lr_36_10 hL) (e_iconst mb_303 dX10_placeOfBest_37 cv_iconst_0 (e_callS mb_303 dX10_placeOfBest_38 mf_303 mf_319 cs_41033 rfl rfl rfl rfl (v_319 hL (h.1 (cb_ge.1.mp q1)).1.1 (h.1 (cb_ge.1.mp q1)).1.2 (show E _ _ _ _ [] _ _ _ _ _ from e_iconst mb_303 dX10_placeOfBest_41 cv_iconst_0 (e_istore_n (l1 := [some (aR (some 36)), o1, some (aI x2), some (aI 0), o4]) mb_303 dX10_placeOfBest_42 rfl ((h.1 (cb_ge.1.mp q1)).2)))))))) (fun q1 => e_iload_n mb_303 dX10_placeOfBest_14 rfl (e_aload_n mb_303 dX10_placeOfBest_15 rfl (e_getr mb_303 dX10_placeOfBest_16 mf_303.1 fs_40981 fk_10_4 (lk_36 hL) (lr_36_4 hL) (e_iload_n mb_303 dX10_placeOfBest_19 rfl (e_ial mb_303 dX10_placeOfBest_20 (lk_39 hL) (ll_39 hL) (h.2 (cb_ge.2.mp q1)).1 rfl (e_iconst mb_303 dX10_placeOfBest_21 cv_iconst_1 (e_max mb_303 dX10_placeOfBest_22 mf_303 cs_41011 rfl rfl (e_imul mb_303 dX10_placeOfBest_25 (h.2 (cb_ge.2.mp q1)).2.1 (e_istore_n (l1 := [some (aR (some 36)), o1, some (aI (x2 * (max (I 39 x3.toNat) 1))), some (aI x3), o4]) mb_303 dX10_placeOfBest_26 (aset_nl no1 rfl rfl rfl) (e_iinc (l1 := [some (aR (some 36)), o1, some (aI (x2 * (max (I 39 x3.toNat) 1))), some (aI (x3 + 1)), o4]) mb_303 dX10_placeOfBest_27 rfl (h.2 (cb_ge.2.mp q1)).2.2.1 rfl (e_goto mb_303 dX10_placeOfBest_30 rfl ((h.2 (cb_ge.2.mp q1)).2.2.2))))))))))))))
theorem w_303_43 {sc : Nat × (Nat → Int)} {I : IH} {L : LH} {R : RH} {K : KH} {Q : AQ} {x2 x3 : Int} {o1 o4 : Option AV} (no1 : nL o1) (no4 : nL o4) {ib : IH} {nb : Nat} (hL : Lay R K) (h : ((1536 ≤ x3 → E sc 303 83 [some (aR (some 36)), o1, some (aI x2), some (aI 0), some (aI 1)] [] I L R K Q) ∧ (x3 < 1536 → ((Inv nb ib L R K ∧ NearS ib R I ∧ 0 ≤ x3 ∧ x3 < 1536)) ∧ (∀ (J3 : IH), (NearS ib R J3) → (AskOK ib J3 x3) → (∀ x j, x ≠ 41 → x ≠ 42 → ¬ (x = 36 ∧ j = 8) → J3 x j = I x j) → (((J3 36 8) ≤ 0 → ((-2147483648 : Int) ≤ x3 + 1 ∧ x3 + 1 < (2147483648 : Int)) ∧ E sc 303 43 [some (aR (some 36)), o1, some (aI x2), some (aI (x3 + 1)), o4] [] J3 L R K Q) ∧ (0 < (J3 36 8) → ((Inv nb ib L R K ∧ NearS ib R J3 ∧ 0 ≤ x3 ∧ x3 < 1536)) ∧ (∀ (J7 : IH), (∀ x j, x ≠ 43 → J7 x j = J3 x j) → (∀ p, p < NN ib 5 → J7 43 p = TT ib x3 5 p) → ((Inv nb ib L R K ∧ x2 = (NN ib 5 : Int) ∧ AskOK ib J7 x3 ∧ (∀ p, p < NN ib 5 → J7 43 p = TT ib x3 5 p) ∧ ∀ p, p < NN ib 5 → 0 ≤ J7 44 p ∧ J7 44 p ≤ 10000000)) ∧ (∀ (J10 : IH), (∀ x j, x ≠ 44 → J10 x j = J7 x j) → (∀ p, p < NN ib 5 → J10 44 p = J7 44 p + conI ib x3 (TT ib x3 5 p % 256 - 3)) → ((-2147483648 : Int) ≤ x3 + 1 ∧ x3 + 1 < (2147483648 : Int)) ∧ E sc 303 43 [some (aR (some 36)), o1, some (aI x2), some (aI (x3 + 1)), o4] [] J10 L R K Q)))))))) : E sc 303 43 [some (aR (some 36)), o1, some (aI x2), some (aI x3), o4] [] I L R K Q :=
  e_iload_n mb_303 dX10_placeOfBest_43 rfl (e_sipush mb_303 dX10_placeOfBest_44 cv_sipush_1536 (e_icmp mb_303 dX10_placeOfBest_47 rfl (fun q1 => e_iconst mb_303 dX10_placeOfBest_78 cv_iconst_0 (e_istore_n (l1 := [some (aR (some 36)), o1, some (aI x2), some (aI 0), o4]) mb_303 dX10_placeOfBest_79 rfl (e_iconst mb_303 dX10_placeOfBest_80 cv_iconst_1 (e_istore (l1 := [some (aR (some 36)), o1, some (aI x2), some (aI 0), some (aI 1)]) mb_303 dX10_placeOfBest_81 rfl ((h.1 (cb_ge.1.mp q1))))))) (fun q1 => e_aload_n mb_303 dX10_placeOfBest_50 rfl (e_iload_n mb_303 dX10_placeOfBest_51 rfl (e_callV mb_303 dX10_placeOfBest_52 mf_303 mf_313 cs_41020 rfl rfl rfl rfl (lk_36 hL) rfl (v_313 hL (h.2 (cb_ge.2.mp q1)).1 (fun J3 hp4 hp5 hp6 => (show E _ _ _ _ [] _ _ _ _ _ from e_aload_n mb_303 dX10_placeOfBest_55 rfl (e_getv mb_303 dX10_placeOfBest_56 mf_303.1 fs_41039 (Or.inl fk_10_8) (lk_36 hL) rfl (e_if mb_303 dX10_placeOfBest_59 rfl (fun q2 => e_iinc (l1 := [some (aR (some 36)), o1, some (aI x2), some (aI (x3 + 1)), o4]) mb_303 dX10_placeOfBest_72 rfl (((h.2 (cb_ge.2.mp q1)).2 J3 hp4 hp5 hp6).1 (cb_le.1.mp q2)).1 rfl (e_goto mb_303 dX10_placeOfBest_75 rfl ((((h.2 (cb_ge.2.mp q1)).2 J3 hp4 hp5 hp6).1 (cb_le.1.mp q2)).2))) (fun q2 => e_aload_n mb_303 dX10_placeOfBest_62 rfl (e_iload_n mb_303 dX10_placeOfBest_63 rfl (e_callV mb_303 dX10_placeOfBest_64 mf_303 mf_308 cs_41043 rfl rfl rfl rfl (lk_36 hL) rfl (v_308 hL (((h.2 (cb_ge.2.mp q1)).2 J3 hp4 hp5 hp6).2 (cb_le.2.mp q2)).1 (fun J7 hp8 hp9 => (show E _ _ _ _ [] _ _ _ _ _ from e_aload_n mb_303 dX10_placeOfBest_67 rfl (e_iload_n mb_303 dX10_placeOfBest_68 rfl (e_callV mb_303 dX10_placeOfBest_69 mf_303 mf_307 cs_41046 rfl rfl rfl rfl (lk_36 hL) rfl (v_307y hL ((((h.2 (cb_ge.2.mp q1)).2 J3 hp4 hp5 hp6).2 (cb_le.2.mp q2)).2 J7 hp8 hp9).1 (fun J10 hp11 hp12 => (show E _ _ _ _ [] _ _ _ _ _ from e_iinc (l1 := [some (aR (some 36)), o1, some (aI x2), some (aI (x3 + 1)), o4]) mb_303 dX10_placeOfBest_72 rfl (((((h.2 (cb_ge.2.mp q1)).2 J3 hp4 hp5 hp6).2 (cb_le.2.mp q2)).2 J7 hp8 hp9).2 J10 hp11 hp12).1 rfl (e_goto mb_303 dX10_placeOfBest_75 rfl ((((((h.2 (cb_ge.2.mp q1)).2 J3 hp4 hp5 hp6).2 (cb_le.2.mp q2)).2 J7 hp8 hp9).2 J10 hp11 hp12).2)))))))))))))))))))))))
theorem w_303_83 {sc : Nat × (Nat → Int)} {I : IH} {L : LH} {R : RH} {K : KH} {Q : AQ} {x2 x3 x4 : Int} {o1 : Option AV} (no1 : nL o1) (hL : Lay R K) (h : ((x2 ≤ x4 → Q (some (aI x3)) I L R K) ∧ (x4 < x2 → (((0 : Int) ≤ x4 ∧ x4 < (243 : Int))) ∧ (((0 : Int) ≤ x3 ∧ x3 < (243 : Int))) ∧ (((I 44 x4.toNat) ≤ (I 44 x3.toNat) → ((-2147483648 : Int) ≤ x4 + 1 ∧ x4 + 1 < (2147483648 : Int)) ∧ E sc 303 83 [some (aR (some 36)), o1, some (aI x2), some (aI x3), some (aI (x4 + 1))] [] I L R K Q) ∧ ((I 44 x3.toNat) < (I 44 x4.toNat) → ((-2147483648 : Int) ≤ x4 + 1 ∧ x4 + 1 < (2147483648 : Int)) ∧ E sc 303 83 [some (aR (some 36)), o1, some (aI x2), some (aI x4), some (aI (x4 + 1))] [] I L R K Q))))) : E sc 303 83 [some (aR (some 36)), o1, some (aI x2), some (aI x3), some (aI x4)] [] I L R K Q :=
  e_iload mb_303 dX10_placeOfBest_83 rfl (e_iload_n mb_303 dX10_placeOfBest_85 rfl (e_icmp mb_303 dX10_placeOfBest_86 rfl (fun q1 => e_iload_n mb_303 dX10_placeOfBest_114 rfl (e_ireturn mb_303 dX10_placeOfBest_115 ri_303 (h.1 (cb_ge.1.mp q1)))) (fun q1 => e_aload_n mb_303 dX10_placeOfBest_89 rfl (e_getr mb_303 dX10_placeOfBest_90 mf_303.1 fs_40996 fk_10_10 (lk_36 hL) (lr_36_10 hL) (e_iload mb_303 dX10_placeOfBest_93 rfl (e_ial mb_303 dX10_placeOfBest_95 (lk_44 hL) (ll_44 hL) (h.2 (cb_ge.2.mp q1)).1 rfl (e_aload_n mb_303 dX10_placeOfBest_96 rfl (e_getr mb_303 dX10_placeOfBest_97 mf_303.1 fs_40996 fk_10_10 (lk_36 hL) (lr_36_10 hL) (e_iload_n mb_303 dX10_placeOfBest_100 rfl (e_ial mb_303 dX10_placeOfBest_101 (lk_44 hL) (ll_44 hL) (h.2 (cb_ge.2.mp q1)).2.1 rfl (e_icmp mb_303 dX10_placeOfBest_102 rfl (fun q2 => e_iinc (l1 := [some (aR (some 36)), o1, some (aI x2), some (aI x3), some (aI (x4 + 1))]) mb_303 dX10_placeOfBest_108 rfl ((h.2 (cb_ge.2.mp q1)).2.2.1 (cb_le.1.mp q2)).1 rfl (e_goto mb_303 dX10_placeOfBest_111 rfl (((h.2 (cb_ge.2.mp q1)).2.2.1 (cb_le.1.mp q2)).2))) (fun q2 => e_iload mb_303 dX10_placeOfBest_105 rfl (e_istore_n (l1 := [some (aR (some 36)), o1, some (aI x2), some (aI x4), some (aI x4)]) mb_303 dX10_placeOfBest_107 rfl (e_iinc (l1 := [some (aR (some 36)), o1, some (aI x2), some (aI x4), some (aI (x4 + 1))]) mb_303 dX10_placeOfBest_108 rfl ((h.2 (cb_ge.2.mp q1)).2.2.2 (cb_le.2.mp q2)).1 rfl (e_goto mb_303 dX10_placeOfBest_111 rfl (((h.2 (cb_ge.2.mp q1)).2.2.2 (cb_le.2.mp q2)).2))))))))))))))))
theorem v_303 {N : Nat} {sc : Nat × (Nat → Int)} {I : IH} {L : LH} {R : RH} {K : KH} {Q : AQ} (hL : Lay R K) (hI : Inv N I L R K) (h : ∀ J, Sg I J → (∀ p, p < NN I 5 → J 44 p = plK I p) → Q (some (aI (bsgF (plK I) (NN I 5)).1)) J L R K) : E sc 303 0 [some (aR (some 36)), some (aI (I 77 0)), none, none, none] [] I L R K Q := by
  have hN5 := NN_b hI 5 (by omega)
  have h243 := NN_243 hI (k := 5) (by omega)
  refine w_303_0 (nb := N) hL ⟨⟨hI, rfl⟩, fun J1 hN1 => ?_⟩
  -- the last loop
  have lZ : ∀ (J : IH) (o1 : Option AV), nL o1 → Sg I J → (∀ p, p < NN I 5 → J 44 p = plK I p) → E sc 303 83 [some (aR (some 36)), o1, some (aI (NN I 5 : Int)), some (aI 0), some (aI 1)] [] J L R K Q := by
    intro J o1 n1 hs hk
    have pos : ∀ p, 0 ≤ plK I p := fun p => (KPp_b hI 1536).1
    have k2 : ∀ n : Nat, 1 ≤ n → n ≤ NN I 5 → ∀ (x y : Int), x = (bsgF (plK I) n).1 → y = (n : Int) → E sc 303 83 [some (aR (some 36)), o1, some (aI (NN I 5 : Int)), some (aI x), some (aI y)] [] J L R K Q := by
      intro n h1 hn
      refine loop_upf (C := fun n => 1 ≤ n → ∀ (x y : Int), x = (bsgF (plK I) n).1 → y = (n : Int) → E sc 303 83 [some (aR (some 36)), o1, some (aI (NN I 5 : Int)), some (aI x), some (aI y)] [] J L R K Q) (NN I 5) ?_ ?_ n hn h1
      · intro n hn hc h1 x y hx hy
        subst hy
        have hb := bsgF_b pos n h1
        have e1 := hk n hn
        have e2 := hk x.toNat (by omega)
        have e3 : plK I x.toNat = (bsgF (plK I) n).2 := by rw [hb.2.2, hx]
        refine w_303_83 n1 hL ?_
        simp only [Int.toNat_natCast]
        rw [e1, e2, e3]
        refine ⟨fun q1 => by omega, fun q1 => ⟨by omega, by omega, fun q2 => ⟨by omega, hc (by omega) _ _ ?_ (by omega)⟩, fun q2 => ⟨by omega, hc (by omega) _ _ ?_ (by omega)⟩⟩⟩
        · rw [bsgF, if_neg (by omega)]; exact hx
        · rw [bsgF, if_pos q2]
      · intro h1 x y hx hy
        subst hy
        exact w_303_83 n1 hL ⟨fun q1 => by rw [hx]; exact h J hs hk, fun q1 => by omega⟩
    have e1 : bsgF (plK I) 1 = (((0 : Nat) : Int), plK I 0) := if_pos (show (-1 : Int) < plK I 0 by have := pos 0; omega)
    exact k2 1 (by omega) hN5.1 _ _ (by rw [e1]; rfl) rfl
  -- the sorts
  have lS : ∀ (J : IH) (o1 o4 : Option AV), nL o1 → nL o4 → NearS I R J → (∀ p, p < NN I 5 → J 44 p = 0) → E sc 303 43 [some (aR (some 36)), o1, some (aI (NN I 5 : Int)), some (aI 0), o4] [] J L R K Q := by
    intro J o1 o4 n1 n4 hN h0
    have k2 : (fun m : Nat => ∀ (y : Int) (J : IH), y = (m : Int) → NearS I R J → (∀ p, p < NN I 5 → J 44 p = KPp I p m) → E sc 303 43 [some (aR (some 36)), o1, some (aI (NN I 5 : Int)), some (aI y), o4] [] J L R K Q) 0 := by
      refine loop_up (C := fun m : Nat => ∀ (y : Int) (J : IH), y = (m : Int) → NearS I R J → (∀ p, p < NN I 5 → J 44 p = KPp I p m) → E sc 303 43 [some (aR (some 36)), o1, some (aI (NN I 5 : Int)), some (aI y), o4] [] J L R K Q) 1536 ?_ ?_
      · intro m hm hc y J hy hN hk
        subst hy
        refine w_303_43 (ib := I) (nb := N) n1 n4 hL ⟨fun q1 => by omega, fun q1 => ⟨⟨hI, hN, by omega⟩, fun J3 hN3 hA3 hf3 => ⟨fun q2 => ⟨by omega, hc _ _ (by omega) hN3 (fun p hp => ?_)⟩, fun q2 => ⟨⟨hI, hN3, by omega⟩, fun J7 hf7 hT7 => ⟨?_, fun J9 hf9 hk9 => ⟨by omega, hc _ _ (by omega) ?_ (fun p hp => ?_)⟩⟩⟩⟩⟩⟩
        · rw [hf3 44 p (by omega) (by omega) (by omega), hk p hp]
          have ez : conI I (m : Int) (TT I (m : Int) 5 p % 256 - 3) = 0 := by
            rw [← hA3.2.2, show (J3 36 8).toNat = 0 by omega]
            rfl
          show KPp I p m = KPp I p m + conI I (m : Int) (TT I (m : Int) 5 p % 256 - 3)
          rw [ez]; omega
        · refine ⟨hI, rfl, ⟨by rw [hf7 36 8 (by omega)]; exact hA3.1, fun j hj => ?_, fun e => ?_⟩, hT7, fun p hp => ?_⟩
          · rw [hf7 36 8 (by omega)] at hj
            rw [hf7 41 j (by omega), hf7 42 j (by omega)]
            exact hA3.2.1 j hj
          · rw [hf7 36 8 (by omega), ← hA3.2.2 e]
            exact sumTo_congr _ (fun j _ => by rw [hf7 41 j (by omega), hf7 42 j (by omega)])
          · rw [hf7 44 p (by omega), hf3 44 p (by omega) (by omega) (by omega), hk p hp]
            have := KPp_b hI (p := p) m
            omega
        · exact (hN3.st hI (fun x j g1 g2 g3 g4 g5 => hf7 x j g3)).st hI (fun x j g1 g2 g3 g4 g5 => hf9 x j g4)
        · rw [hk9 p hp, hf7 44 p (by omega), hf3 44 p (by omega) (by omega) (by omega), hk p hp]
          rfl
      · intro y J hy hN hk
        subst hy
        exact w_303_43 (ib := I) (nb := N) n1 n4 hL ⟨fun q1 => lZ J o1 n1 hN.1 hk, fun q1 => by omega⟩
    exact k2 _ _ rfl hN (fun p hp => by rw [h0 p hp]; rfl)
  -- how many writings
  have lW : (fun k : Nat => ∀ (x y : Int) (o1 o4 : Option AV), nL o1 → nL o4 → x = (NN I k : Int) → y = (k : Int) → E sc 303 9 [some (aR (some 36)), o1, some (aI x), some (aI y), o4] [] J1 L R K Q) 0 := by
    refine loop_up (C := fun k : Nat => ∀ (x y : Int) (o1 o4 : Option AV), nL o1 → nL o4 → x = (NN I k : Int) → y = (k : Int) → E sc 303 9 [some (aR (some 36)), o1, some (aI x), some (aI y), o4] [] J1 L R K Q) 5 ?_ ?_
    · intro k hk hc x y o1 o4 n1 n4 hx hy
      subst hy
      subst hx
      have emx : max (J1 39 k) 1 = (nW I k : Int) := by
        rw [hN1.1 39 k (by unfold S0; omega), ((iW hI).1 k hk).1]
        exact (nW_b hI hk).2.2.2.2
      have h2 := NN_243 hI (k := k + 1) (by omega)
      have e1 : NN I (k + 1) = NN I k * nW I k := rfl
      refine w_303_9 n1 n4 hL ?_
      simp only [Int.toNat_natCast]
      rw [emx, ← Int.natCast_mul, ← e1]
      exact ⟨fun q1 => by omega, fun q1 => ⟨by omega, by omega, by omega, hc _ _ _ _ n1 n4 rfl (by omega)⟩⟩
    · intro x y o1 o4 n1 n4 hx hy
      subst hy
      subst hx
      refine w_303_9 n1 n4 hL ⟨fun q1 => ⟨⟨lk_44 hL, by rw [ll_44 hL]; omega⟩, ?_⟩, fun q1 => by omega⟩
      rw [ll_44 hL]
      refine lS _ _ _ n1 n4 (hN1.st hI (fun x j g1 g2 g3 g4 g5 => by unfold fillF; rw [if_neg (fun e => g4 e.1)])) (fun p hp => ?_)
      unfold fillF
      rw [if_pos ⟨rfl, by omega⟩]
  exact lW _ _ _ _ nl_i nl_n rfl rfl
