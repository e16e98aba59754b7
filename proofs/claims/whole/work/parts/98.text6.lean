/-! texts: the whole, as the reference reads it -/
def tsA (b : Nat → Int) (len k : Nat) (o : Int) (p : Nat) : Nat × Bool × List Int :=
  if (testS b p).2.1 = true then ((aftS b len k (testS b p).1).1, (aftS b len k (testS b p).1).2.1, (1000 * o + (testS b p).2.2) :: (aftS b len k (testS b p).1).2.2)
  else ((testS b p).1, false, [])
theorem aft_ts {b : Nat → Int} {len k p q : Nat} {o : Int} (h : ¬ len ≤ p) (hl : linkS b p = (q, true, o)) : aftS b len (k + 1) p = tsA b len k o q := by
  have e : ltS b p = ((testS b q).1, (testS b q).2.1, 1000 * o + (testS b q).2.2) := by unfold ltS; rw [if_pos (by rw [hl]), hl]
  rw [aftS, if_neg h, e]
  unfold tsA
  by_cases g : (testS b q).2.1 = true
  · rw [if_pos g]
  · rw [if_neg g]
theorem aft_lf {b : Nat → Int} {len k p : Nat} (h : ¬ len ≤ p) (hl : (linkS b p).2.1 = false) : aftS b len (k + 1) p = ((linkS b p).1, false, []) := by
  have e : ltS b p = ((linkS b p).1, false, 0) := by unfold ltS; rw [if_neg (by rw [hl]; decide)]
  rw [aftS, if_neg h, e]
  exact if_neg (fun g => absurd g Bool.false_ne_true)
theorem con_ts {b : Nat → Int} {len : Nat} {u : Int} {V : Nat × Bool} (h : V.2 = true) : conT b len u V = ((tsA b len 4 0 V.1).1, (tsA b len 4 0 V.1).2.1, u, (tsA b len 4 0 V.1).2.2) := by
  unfold conT tsA
  rw [if_pos h]
  by_cases g : (testS b V.1).2.1 = true
  · rw [if_pos g, if_pos g, show (1000 : Int) * 0 + (testS b V.1).2.2 = (testS b V.1).2.2 by omega]
  · rw [if_neg g, if_neg g]
def textS (b : Nat → Int) (len : Nat) : Nat × Bool × Int × Int × List Int :=
  if (endS b 0).2.1 = true then
    if len ≤ (endS b 0).1 then ((endS b 0).1, true, (endS b 0).2.2, 0, [])
    else ((conS b len (endS b 0).1).1, (conS b len (endS b 0).1).2.1, (endS b 0).2.2, (conS b len (endS b 0).1).2.2.1, (conS b len (endS b 0).1).2.2.2)
  else ((endS b 0).1, false, 0, 0, [])
def fltV (T : Nat × Bool × Int × Int × List Int) : Int := if T.2.1 = true then -1 else (T.1 : Int)
def FrY (t : Nat) (I J : IH) : Prop := ∀ a j : Nat, ¬ (a = 77 ∧ (j = 55 ∨ j = 56)) → ¬ (a = 82 ∧ 5 * t ≤ j ∧ j < 5 * t + 5) → J a j = I a j
def FrZ (t : Nat) (I J : IH) : Prop := ∀ a j : Nat, ¬ (a = 77 ∧ (j = 55 ∨ j = 56)) → ¬ (a = 82 ∧ 5 * t ≤ j ∧ j < 5 * t + 5) → ¬ ((a = 79 ∨ a = 80 ∨ a = 81) ∧ j = t) → J a j = I a j
theorem fry_m {t : Nat} {I J J2 : IH} (h : FrY t I J) (h2 : FrM J J2) : FrY t I J2 := fun a j q1 q2 => (h2 a j q1).trans (h a j q1 q2)
theorem fry_8 {t i : Nat} {v : Int} {I J : IH} (h : FrY t I J) (hi : 5 * t ≤ i ∧ i < 5 * t + 5) : FrY t I (setF J 82 i v) := fun a j q1 q2 => by rw [setF_n (by omega)]; exact h a j q1 q2
theorem bM_fry {t : Nat} {I J : IH} (h : FrY t I J) : bM J = bM I := by
  funext p
  unfold bM
  rw [h 77 2 (by omega) (by omega), h 78 p (by omega) (by omega)]
def MDone (J : IH) (t : Nat) (cs : List Int) : Prop := ∀ k : Nat, k < cs.length → J 82 (5 * t + k) = cs.getD k 0
theorem md_m {t : Nat} {I J : IH} {cs : List Int} (h : MDone I t cs) (f : FrM I J) : MDone J t cs := fun k hk => by rw [f 82 _ (by omega)]; exact h k hk
theorem md_step {t : Nat} {C : Int} {J : IH} {cs : List Int} (h : MDone J t cs) : MDone (setF J 82 (5 * t + cs.length) C) t (cs ++ [C]) := by
  intro k hk
  rw [List.length_append, List.length_singleton] at hk
  by_cases q : k < cs.length
  · rw [getD_l q, setF_n (by omega)]; exact h k q
  · have : k = cs.length := by omega
    subst this
    rw [getD_r]; exact setF_s
theorem st_82 {J : IH} {i : Nat} {v : Int} : stM (setF J 82 i v) = stM J := by
  unfold stM
  rw [setF_n (by omega), setF_n (by omega)]
theorem mok_t82 {J : IH} {i : Nat} {v : Int} (h : MOK J) : MOK (setF J 82 i v) := by
  unfold MOK
  rw [setF_n (by omega), setF_n (by omega)]
  exact h
theorem st_55 {J : IH} (h : MOK J) : J 77 55 = (((stM J).1 : Nat) : Int) := by
  have := h.1
  show J 77 55 = (((J 77 55).toNat : Nat) : Int)
  omega
theorem st_56 {J : IH} : ((stM J).2 = true → J 77 56 = 0) ∧ ((stM J).2 = false → J 77 56 ≠ 0) := ⟨fun g => of_decide_eq_true g, fun g => of_decide_eq_false g⟩
theorem w_83_0 {sc : Nat × (Nat → Int)} {I : IH} {L : LH} {R : RH} {K : KH} {Q : AQ} {a0 : Int} (hL : Lay R K) (h : ((MOK (setF (setF I 77 55 0) 77 56 0) ∧ stM (setF (setF I 77 55 0) 77 56 0) = ((stM (setF (setF I 77 55 0) 77 56 0)).1, true))) ∧ (∀ (J1 : IH), ∀ (v2 : Int), (FrM (setF (setF I 77 55 0) 77 56 0) J1) → (stM J1 = ((endS (bM (setF (setF I 77 55 0) 77 56 0)) (stM (setF (setF I 77 55 0) 77 56 0)).1).1, (endS (bM (setF (setF I 77 55 0) 77 56 0)) (stM (setF (setF I 77 55 0) 77 56 0)).1).2.1)) → (MOK J1) → ((endS (bM (setF (setF I 77 55 0) 77 56 0)) (stM (setF (setF I 77 55 0) 77 56 0)).1).2.1 = true → v2 = (endS (bM (setF (setF I 77 55 0) 77 56 0)) (stM (setF (setF I 77 55 0) 77 56 0)).1).2.2) → (((J1 77 56) ≠ 0 → E sc 83 115 [some (aR (some 77)), some (aI a0), some (aI 0), some (aI 0), some (aI v2), some (aI 0), some (aI 0)] [] J1 L R K Q) ∧ ((J1 77 56) = 0 → (((J1 77 2) ≤ (J1 77 55) → E sc 83 115 [some (aR (some 77)), some (aI a0), some (aI 0), some (aI 0), some (aI v2), some (aI 0), some (aI 0)] [] J1 L R K Q) ∧ ((J1 77 55) < (J1 77 2) → ((MOK J1 ∧ (0 : Int) ≤ 32)) ∧ (∀ (J7 : IH), (FrM J1 J7) → (stM J7 = eatS (bM J1) 32 (stM J1)) → (MOK J7) → ((MOK J7)) ∧ (((bM J7 (stM J7).1) ≠ 117 → ((MOK J7 ∧ (0 : Int) ≤ 105)) ∧ (∀ (J11 : IH), (FrM J7 J11) → (stM J11 = eatS (bM J7) 105 (stM J7)) → (MOK J11) → ((MOK J11 ∧ (0 : Int) ≤ 102)) ∧ (∀ (J15 : IH), (FrM J11 J15) → (stM J15 = eatS (bM J11) 102 (stM J11)) → (MOK J15) → ((MOK J15 ∧ (0 : Int) ≤ 32)) ∧ (∀ (J19 : IH), (FrM J15 J19) → (stM J19 = eatS (bM J15) 32 (stM J15)) → (MOK J19) → E sc 83 115 [some (aR (some 77)), some (aI a0), some (aI 0), some (aI 0), some (aI v2), some (aI 1), some (aI 0)] [] J19 L R K Q)))) ∧ ((bM J7 (stM J7).1) = 117 → ((MOK J7 ∧ (0 : Int) ≤ 117 ∧ (0 : Int) ≤ 110 ∧ (0 : Int) ≤ 108 ∧ (0 : Int) ≤ 101)) ∧ (∀ (J23 : IH), (FrM J7 J23) → (stM J23 = eatL (bM J7) [117, 110, 108, 101] (stM J7)) → (MOK J23) → ((MOK J23 ∧ (0 : Int) ≤ 115)) ∧ (∀ (J27 : IH), (FrM J23 J27) → (stM J27 = eatS (bM J23) 115 (stM J23)) → (MOK J27) → ((MOK J27 ∧ (0 : Int) ≤ 115)) ∧ (∀ (J31 : IH), (FrM J27 J31) → (stM J31 = eatS (bM J27) 115 (stM J27)) → (MOK J31) → ((MOK J31 ∧ (0 : Int) ≤ 32)) ∧ (∀ (J35 : IH), (FrM J31 J35) → (stM J35 = eatS (bM J31) 32 (stM J31)) → (MOK J35) → E sc 83 115 [some (aR (some 77)), some (aI a0), some (aI 0), some (aI 1), some (aI v2), some (aI 1), some (aI 0)] [] J35 L R K Q))))))))))))) : E sc 83 0 [some (aR (some 77)), some (aI a0), none, none, none, none, none] [] I L R K Q :=
  e_aload_n mb_83 dX12_read_0 rfl (e_iconst mb_83 dX12_read_1 cv_iconst_0 (e_puti mb_83 dX12_read_2 mf_83.1 fs_49352 fk_12_55 (Or.inl ff_12_55) (lk_77 hL) (e_aload_n mb_83 dX12_read_5 rfl (e_iconst mb_83 dX12_read_6 cv_iconst_0 (e_putb mb_83 dX12_read_7 mf_83.1 fs_49355 fk_12_56 (Or.inl ff_12_56) (lk_77 hL) (Or.inl rfl) (e_iconst mb_83 dX12_read_10 cv_iconst_0 (e_istore_n (l1 := [some (aR (some 77)), some (aI a0), some (aI 0), none, none, none, none]) mb_83 dX12_read_11 rfl (e_iconst mb_83 dX12_read_12 cv_iconst_0 (e_istore_n (l1 := [some (aR (some 77)), some (aI a0), some (aI 0), some (aI 0), none, none, none]) mb_83 dX12_read_13 rfl (e_aload_n mb_83 dX12_read_14 rfl (e_callV mb_83 dX12_read_15 mf_83 mf_80 cs_49378 rfl rfl rfl rfl (lk_77 hL) rfl (v_80 hL h.1 (fun J1 v2 hp3 hp4 hp5 hp6 => (show E _ _ _ _ [aI v2] _ _ _ _ _ from e_istore (l1 := [some (aR (some 77)), some (aI a0), some (aI 0), some (aI 0), some (aI v2), none, none]) mb_83 dX12_read_18 rfl (e_aload_n mb_83 dX12_read_20 rfl (e_getv mb_83 dX12_read_21 mf_83.1 fs_49355 (Or.inr fk_12_56) (lk_77 hL) rfl (e_if mb_83 dX12_read_24 rfl (fun q1 => e_iconst mb_83 dX12_read_42 cv_iconst_0 (e_istore (l1 := [some (aR (some 77)), some (aI a0), some (aI 0), some (aI 0), some (aI v2), some (aI 0), none]) mb_83 dX12_read_43 rfl (e_iload mb_83 dX12_read_45 rfl (e_if mb_83 dX12_read_47 rfl (fun _ => e_iconst mb_83 dX12_read_112 cv_iconst_0 (e_istore (l1 := [some (aR (some 77)), some (aI a0), some (aI 0), some (aI 0), some (aI v2), some (aI 0), some (aI 0)]) mb_83 dX12_read_113 rfl (((h.2 J1 v2 hp3 hp4 hp5 hp6).1 (cb_ne.1.mp q1))))) (fun q => absurd q (by decide)))))) (fun q1 => e_aload_n mb_83 dX12_read_27 rfl (e_getv mb_83 dX12_read_28 mf_83.1 fs_49352 (Or.inl fk_12_55) (lk_77 hL) rfl (e_aload_n mb_83 dX12_read_31 rfl (e_getv mb_83 dX12_read_32 mf_83.1 fs_49349 (Or.inl fk_12_2) (lk_77 hL) rfl (e_icmp mb_83 dX12_read_35 rfl (fun q2 => e_iconst mb_83 dX12_read_42 cv_iconst_0 (e_istore (l1 := [some (aR (some 77)), some (aI a0), some (aI 0), some (aI 0), some (aI v2), some (aI 0), none]) mb_83 dX12_read_43 rfl (e_iload mb_83 dX12_read_45 rfl (e_if mb_83 dX12_read_47 rfl (fun _ => e_iconst mb_83 dX12_read_112 cv_iconst_0 (e_istore (l1 := [some (aR (some 77)), some (aI a0), some (aI 0), some (aI 0), some (aI v2), some (aI 0), some (aI 0)]) mb_83 dX12_read_113 rfl ((((h.2 J1 v2 hp3 hp4 hp5 hp6).2 (cb_ne.2.mp q1)).1 (cb_ge.1.mp q2))))) (fun q => absurd q (by decide)))))) (fun q2 => e_iconst mb_83 dX12_read_38 cv_iconst_1 (e_goto mb_83 dX12_read_39 rfl (e_istore (l1 := [some (aR (some 77)), some (aI a0), some (aI 0), some (aI 0), some (aI v2), some (aI 1), none]) mb_83 dX12_read_43 rfl (e_iload mb_83 dX12_read_45 rfl (e_if mb_83 dX12_read_47 rfl (fun q => absurd q (by decide)) (fun _ => e_aload_n mb_83 dX12_read_50 rfl (e_bipush mb_83 dX12_read_51 cv_bipush_32 (e_callV mb_83 dX12_read_53 mf_83 mf_77 cs_49363 rfl rfl rfl rfl (lk_77 hL) rfl (v_77 hL (((h.2 J1 v2 hp3 hp4 hp5 hp6).2 (cb_ne.2.mp q1)).2 (cb_ge.2.mp q2)).1 (fun J7 hp8 hp9 hp10 => (show E _ _ _ _ [] _ _ _ _ _ from e_aload_n mb_83 dX12_read_56 rfl (e_callV mb_83 dX12_read_57 mf_83 mf_76 cs_49359 rfl rfl rfl rfl (lk_77 hL) rfl (v_76x hL ((((h.2 J1 v2 hp3 hp4 hp5 hp6).2 (cb_ne.2.mp q1)).2 (cb_ge.2.mp q2)).2 J7 hp8 hp9 hp10).1 (show E _ _ _ _ (_ :: _) _ _ _ _ _ from e_bipush mb_83 dX12_read_60 cv_bipush_117 (e_icmp mb_83 dX12_read_62 rfl (fun q3 => e_aload_n mb_83 dX12_read_94 rfl (e_bipush mb_83 dX12_read_95 cv_bipush_105 (e_callV mb_83 dX12_read_97 mf_83 mf_77 cs_49363 rfl rfl rfl rfl (lk_77 hL) rfl (v_77 hL (((((h.2 J1 v2 hp3 hp4 hp5 hp6).2 (cb_ne.2.mp q1)).2 (cb_ge.2.mp q2)).2 J7 hp8 hp9 hp10).2.1 (cb_ne.1.mp q3)).1 (fun J11 hp12 hp13 hp14 => (show E _ _ _ _ [] _ _ _ _ _ from e_aload_n mb_83 dX12_read_100 rfl (e_bipush mb_83 dX12_read_101 cv_bipush_102 (e_callV mb_83 dX12_read_103 mf_83 mf_77 cs_49363 rfl rfl rfl rfl (lk_77 hL) rfl (v_77 hL ((((((h.2 J1 v2 hp3 hp4 hp5 hp6).2 (cb_ne.2.mp q1)).2 (cb_ge.2.mp q2)).2 J7 hp8 hp9 hp10).2.1 (cb_ne.1.mp q3)).2 J11 hp12 hp13 hp14).1 (fun J15 hp16 hp17 hp18 => (show E _ _ _ _ [] _ _ _ _ _ from e_aload_n mb_83 dX12_read_106 rfl (e_bipush mb_83 dX12_read_107 cv_bipush_32 (e_callV mb_83 dX12_read_109 mf_83 mf_77 cs_49363 rfl rfl rfl rfl (lk_77 hL) rfl (v_77 hL (((((((h.2 J1 v2 hp3 hp4 hp5 hp6).2 (cb_ne.2.mp q1)).2 (cb_ge.2.mp q2)).2 J7 hp8 hp9 hp10).2.1 (cb_ne.1.mp q3)).2 J11 hp12 hp13 hp14).2 J15 hp16 hp17 hp18).1 (fun J19 hp20 hp21 hp22 => (show E _ _ _ _ [] _ _ _ _ _ from e_iconst mb_83 dX12_read_112 cv_iconst_0 (e_istore (l1 := [some (aR (some 77)), some (aI a0), some (aI 0), some (aI 0), some (aI v2), some (aI 1), some (aI 0)]) mb_83 dX12_read_113 rfl (((((((((h.2 J1 v2 hp3 hp4 hp5 hp6).2 (cb_ne.2.mp q1)).2 (cb_ge.2.mp q2)).2 J7 hp8 hp9 hp10).2.1 (cb_ne.1.mp q3)).2 J11 hp12 hp13 hp14).2 J15 hp16 hp17 hp18).2 J19 hp20 hp21 hp22))))))))))))))))))) (fun q3 => e_iconst mb_83 dX12_read_65 cv_iconst_1 (e_istore_n (l1 := [some (aR (some 77)), some (aI a0), some (aI 0), some (aI 1), some (aI v2), some (aI 1), none]) mb_83 dX12_read_66 rfl (e_aload_n mb_83 dX12_read_67 rfl (e_bipush mb_83 dX12_read_68 cv_bipush_117 (e_bipush mb_83 dX12_read_70 cv_bipush_110 (e_bipush mb_83 dX12_read_72 cv_bipush_108 (e_bipush mb_83 dX12_read_74 cv_bipush_101 (e_callV mb_83 dX12_read_76 mf_83 mf_78 cs_49367 rfl rfl rfl rfl (lk_77 hL) rfl (v_78 hL (((((h.2 J1 v2 hp3 hp4 hp5 hp6).2 (cb_ne.2.mp q1)).2 (cb_ge.2.mp q2)).2 J7 hp8 hp9 hp10).2.2 (cb_ne.2.mp q3)).1 (fun J23 hp24 hp25 hp26 => (show E _ _ _ _ [] _ _ _ _ _ from e_aload_n mb_83 dX12_read_79 rfl (e_bipush mb_83 dX12_read_80 cv_bipush_115 (e_callV mb_83 dX12_read_82 mf_83 mf_77 cs_49363 rfl rfl rfl rfl (lk_77 hL) rfl (v_77 hL ((((((h.2 J1 v2 hp3 hp4 hp5 hp6).2 (cb_ne.2.mp q1)).2 (cb_ge.2.mp q2)).2 J7 hp8 hp9 hp10).2.2 (cb_ne.2.mp q3)).2 J23 hp24 hp25 hp26).1 (fun J27 hp28 hp29 hp30 => (show E _ _ _ _ [] _ _ _ _ _ from e_aload_n mb_83 dX12_read_85 rfl (e_bipush mb_83 dX12_read_86 cv_bipush_115 (e_callV mb_83 dX12_read_88 mf_83 mf_77 cs_49363 rfl rfl rfl rfl (lk_77 hL) rfl (v_77 hL (((((((h.2 J1 v2 hp3 hp4 hp5 hp6).2 (cb_ne.2.mp q1)).2 (cb_ge.2.mp q2)).2 J7 hp8 hp9 hp10).2.2 (cb_ne.2.mp q3)).2 J23 hp24 hp25 hp26).2 J27 hp28 hp29 hp30).1 (fun J31 hp32 hp33 hp34 => (show E _ _ _ _ [] _ _ _ _ _ from e_goto mb_83 dX12_read_91 rfl (e_aload_n mb_83 dX12_read_106 rfl (e_bipush mb_83 dX12_read_107 cv_bipush_32 (e_callV mb_83 dX12_read_109 mf_83 mf_77 cs_49363 rfl rfl rfl rfl (lk_77 hL) rfl (v_77 hL ((((((((h.2 J1 v2 hp3 hp4 hp5 hp6).2 (cb_ne.2.mp q1)).2 (cb_ge.2.mp q2)).2 J7 hp8 hp9 hp10).2.2 (cb_ne.2.mp q3)).2 J23 hp24 hp25 hp26).2 J27 hp28 hp29 hp30).2 J31 hp32 hp33 hp34).1 (fun J35 hp36 hp37 hp38 => (show E _ _ _ _ [] _ _ _ _ _ from e_iconst mb_83 dX12_read_112 cv_iconst_0 (e_istore (l1 := [some (aR (some 77)), some (aI a0), some (aI 0), some (aI 1), some (aI v2), some (aI 1), some (aI 0)]) mb_83 dX12_read_113 rfl ((((((((((h.2 J1 v2 hp3 hp4 hp5 hp6).2 (cb_ne.2.mp q1)).2 (cb_ge.2.mp q2)).2 J7 hp8 hp9 hp10).2.2 (cb_ne.2.mp q3)).2 J23 hp24 hp25 hp26).2 J27 hp28 hp29 hp30).2 J31 hp32 hp33 hp34).2 J35 hp36 hp37 hp38)))))))))))))))))))))))))))))))))))))))))))))))))))))))))))))))))))
theorem w_83_115 {sc : Nat × (Nat → Int)} {I : IH} {L : LH} {R : RH} {K : KH} {Q : AQ} {x1 x2 x3 x4 x5 x6 : Int} (hL : Lay R K) (h : ((x5 = 0 → (((I 77 56) = 0 → (((0 : Int) ≤ x1 ∧ x1 < (96 : Int))) ∧ (((0 : Int) ≤ x1 ∧ x1 < (96 : Int)) ∧ (x3 = 0 ∨ x3 = 1)) ∧ (((0 : Int) ≤ x1 ∧ x1 < (96 : Int))) ∧ Q (some (aI (-1))) (setF (setF (setF I 79 x1.toNat x4) 80 x1.toNat x3) 81 x1.toNat x2) L R K) ∧ ((I 77 56) ≠ 0 → Q (some (aI (I 77 55))) I L R K))) ∧ (x5 ≠ 0 → (((I 77 56) ≠ 0 → (((I 77 56) = 0 → (((0 : Int) ≤ x1 ∧ x1 < (96 : Int))) ∧ (((0 : Int) ≤ x1 ∧ x1 < (96 : Int)) ∧ (x3 = 0 ∨ x3 = 1)) ∧ (((0 : Int) ≤ x1 ∧ x1 < (96 : Int))) ∧ Q (some (aI (-1))) (setF (setF (setF I 79 x1.toNat x4) 80 x1.toNat x3) 81 x1.toNat x2) L R K) ∧ ((I 77 56) ≠ 0 → Q (some (aI (I 77 55))) I L R K))) ∧ ((I 77 56) = 0 → ((-2147483648 : Int) ≤ 5 * x1 ∧ 5 * x1 < (2147483648 : Int)) ∧ ((-2147483648 : Int) ≤ (5 * x1) + x2 ∧ (5 * x1) + x2 < (2147483648 : Int)) ∧ ((MOK I ∧ stM I = ((stM I).1, true) ∧ (0 : Int) ≤ x6 ∧ x6 < (2 : Int))) ∧ (∀ (J39 : IH), ∀ (v40 : Int), (FrM I J39) → (stM J39 = ((testS (bM I) (stM I).1).1, (testS (bM I) (stM I).1).2.1)) → (MOK J39) → ((testS (bM I) (stM I).1).2.1 = true → v40 = 1000 * x6 + (testS (bM I) (stM I).1).2.2) → (((0 : Int) ≤ ((5 * x1) + x2) ∧ ((5 * x1) + x2) < (480 : Int))) ∧ ((-2147483648 : Int) ≤ x2 + 1 ∧ x2 + 1 < (2147483648 : Int)) ∧ (((J39 77 56) ≠ 0 → E sc 83 115 [some (aR (some 77)), some (aI x1), some (aI (x2 + 1)), some (aI x3), some (aI x4), some (aI 0), some (aI x6)] [] (setF J39 82 (((5 * x1) + x2).toNat) v40) L R K Q) ∧ ((J39 77 56) = 0 → (((J39 77 2) ≤ (J39 77 55) → E sc 83 115 [some (aR (some 77)), some (aI x1), some (aI (x2 + 1)), some (aI x3), some (aI x4), some (aI 0), some (aI x6)] [] (setF J39 82 (((5 * x1) + x2).toNat) v40) L R K Q) ∧ ((J39 77 55) < (J39 77 2) → (((x2 + 1) ≠ 5 → ((MOK (setF J39 82 (((5 * x1) + x2).toNat) v40) ∧ (0 : Int) ≤ 32)) ∧ (∀ (J45 : IH), (FrM (setF J39 82 (((5 * x1) + x2).toNat) v40) J45) → (stM J45 = eatS (bM (setF J39 82 (((5 * x1) + x2).toNat) v40)) 32 (stM (setF J39 82 (((5 * x1) + x2).toNat) v40))) → (MOK J45) → ((MOK J45)) ∧ (((bM J45 (stM J45).1) ≠ 111 → ((MOK J45 ∧ (0 : Int) ≤ 97)) ∧ (∀ (J49 : IH), (FrM J45 J49) → (stM J49 = eatS (bM J45) 97 (stM J45)) → (MOK J49) → ((MOK J49 ∧ (0 : Int) ≤ 110)) ∧ (∀ (J53 : IH), (FrM J49 J53) → (stM J53 = eatS (bM J49) 110 (stM J49)) → (MOK J53) → ((MOK J53 ∧ (0 : Int) ≤ 100)) ∧ (∀ (J57 : IH), (FrM J53 J57) → (stM J57 = eatS (bM J53) 100 (stM J53)) → (MOK J57) → ((MOK J57 ∧ (0 : Int) ≤ 32)) ∧ (∀ (J61 : IH), (FrM J57 J61) → (stM J61 = eatS (bM J57) 32 (stM J57)) → (MOK J61) → E sc 83 115 [some (aR (some 77)), some (aI x1), some (aI (x2 + 1)), some (aI x3), some (aI x4), some (aI 1), some (aI 0)] [] J61 L R K Q))))) ∧ ((bM J45 (stM J45).1) = 111 → ((MOK J45 ∧ (0 : Int) ≤ 111)) ∧ (∀ (J65 : IH), (FrM J45 J65) → (stM J65 = eatS (bM J45) 111 (stM J45)) → (MOK J65) → ((MOK J65 ∧ (0 : Int) ≤ 114)) ∧ (∀ (J69 : IH), (FrM J65 J69) → (stM J69 = eatS (bM J65) 114 (stM J65)) → (MOK J69) → ((MOK J69 ∧ (0 : Int) ≤ 32)) ∧ (∀ (J73 : IH), (FrM J69 J73) → (stM J73 = eatS (bM J69) 32 (stM J69)) → (MOK J73) → E sc 83 115 [some (aR (some 77)), some (aI x1), some (aI (x2 + 1)), some (aI x3), some (aI x4), some (aI 1), some (aI 1)] [] J73 L R K Q))))))) ∧ ((x2 + 1) = 5 → E sc 83 115 [some (aR (some 77)), some (aI x1), some (aI (x2 + 1)), some (aI x3), some (aI x4), some (aI 1), some (aI x6)] [] (setF (setF J39 82 (((5 * x1) + x2).toNat) v40) 77 56 1) L R K Q)))))))))))) : E sc 83 115 [some (aR (some 77)), some (aI x1), some (aI x2), some (aI x3), some (aI x4), some (aI x5), some (aI x6)] [] I L R K Q :=
  e_iload mb_83 dX12_read_115 rfl (e_if mb_83 dX12_read_117 rfl (fun q1 => e_aload_n mb_83 dX12_read_257 rfl (e_getv mb_83 dX12_read_258 mf_83.1 fs_49355 (Or.inr fk_12_56) (lk_77 hL) rfl (e_if mb_83 dX12_read_261 rfl (fun q2 => e_aload_n mb_83 dX12_read_269 rfl (e_getr mb_83 dX12_read_270 mf_83.1 fs_49165 fk_12_3 (lk_77 hL) (lr_77_3 hL) (e_iload_n mb_83 dX12_read_273 rfl (e_iload mb_83 dX12_read_274 rfl (e_iastore mb_83 dX12_read_276 (lk_79 hL) (ll_79 hL) ((h.1 (cb_eq.1.mp q1)).1 (cb_eq.1.mp q2)).1 (e_aload_n mb_83 dX12_read_277 rfl (e_getr mb_83 dX12_read_278 mf_83.1 fs_49168 fk_12_4 (lk_77 hL) (lr_77_4 hL) (e_iload_n mb_83 dX12_read_281 rfl (e_iload_n mb_83 dX12_read_282 rfl (e_bastore mb_83 dX12_read_283 (lk_80 hL) (ll_80 hL) ((h.1 (cb_eq.1.mp q1)).1 (cb_eq.1.mp q2)).2.1.1 ((h.1 (cb_eq.1.mp q1)).1 (cb_eq.1.mp q2)).2.1.2 (e_aload_n mb_83 dX12_read_284 rfl (e_getr mb_83 dX12_read_285 mf_83.1 fs_49172 fk_12_5 (lk_77 hL) (lr_77_5 hL) (e_iload_n mb_83 dX12_read_288 rfl (e_iload_n mb_83 dX12_read_289 rfl (e_iastore mb_83 dX12_read_290 (lk_81 hL) (ll_81 hL) ((h.1 (cb_eq.1.mp q1)).1 (cb_eq.1.mp q2)).2.2.1 (e_iconst mb_83 dX12_read_291 cv_iconst_m1 (e_ireturn mb_83 dX12_read_292 ri_83 ((h.1 (cb_eq.1.mp q1)).1 (cb_eq.1.mp q2)).2.2.2))))))))))))))))) (fun q2 => e_aload_n mb_83 dX12_read_264 rfl (e_getv mb_83 dX12_read_265 mf_83.1 fs_49352 (Or.inl fk_12_55) (lk_77 hL) rfl (e_ireturn mb_83 dX12_read_268 ri_83 ((h.1 (cb_eq.1.mp q1)).2 (cb_eq.2.mp q2)))))))) (fun q1 => e_aload_n mb_83 dX12_read_120 rfl (e_getv mb_83 dX12_read_121 mf_83.1 fs_49355 (Or.inr fk_12_56) (lk_77 hL) rfl (e_if mb_83 dX12_read_124 rfl (fun q3 => e_aload_n mb_83 dX12_read_257 rfl (e_getv mb_83 dX12_read_258 mf_83.1 fs_49355 (Or.inr fk_12_56) (lk_77 hL) rfl (e_if mb_83 dX12_read_261 rfl (fun q4 => e_aload_n mb_83 dX12_read_269 rfl (e_getr mb_83 dX12_read_270 mf_83.1 fs_49165 fk_12_3 (lk_77 hL) (lr_77_3 hL) (e_iload_n mb_83 dX12_read_273 rfl (e_iload mb_83 dX12_read_274 rfl (e_iastore mb_83 dX12_read_276 (lk_79 hL) (ll_79 hL) (((h.2 (cb_eq.2.mp q1)).1 (cb_ne.1.mp q3)).1 (cb_eq.1.mp q4)).1 (e_aload_n mb_83 dX12_read_277 rfl (e_getr mb_83 dX12_read_278 mf_83.1 fs_49168 fk_12_4 (lk_77 hL) (lr_77_4 hL) (e_iload_n mb_83 dX12_read_281 rfl (e_iload_n mb_83 dX12_read_282 rfl (e_bastore mb_83 dX12_read_283 (lk_80 hL) (ll_80 hL) (((h.2 (cb_eq.2.mp q1)).1 (cb_ne.1.mp q3)).1 (cb_eq.1.mp q4)).2.1.1 (((h.2 (cb_eq.2.mp q1)).1 (cb_ne.1.mp q3)).1 (cb_eq.1.mp q4)).2.1.2 (e_aload_n mb_83 dX12_read_284 rfl (e_getr mb_83 dX12_read_285 mf_83.1 fs_49172 fk_12_5 (lk_77 hL) (lr_77_5 hL) (e_iload_n mb_83 dX12_read_288 rfl (e_iload_n mb_83 dX12_read_289 rfl (e_iastore mb_83 dX12_read_290 (lk_81 hL) (ll_81 hL) (((h.2 (cb_eq.2.mp q1)).1 (cb_ne.1.mp q3)).1 (cb_eq.1.mp q4)).2.2.1 (e_iconst mb_83 dX12_read_291 cv_iconst_m1 (e_ireturn mb_83 dX12_read_292 ri_83 (((h.2 (cb_eq.2.mp q1)).1 (cb_ne.1.mp q3)).1 (cb_eq.1.mp q4)).2.2.2))))))))))))))))) (fun q4 => e_aload_n mb_83 dX12_read_264 rfl (e_getv mb_83 dX12_read_265 mf_83.1 fs_49352 (Or.inl fk_12_55) (lk_77 hL) rfl (e_ireturn mb_83 dX12_read_268 ri_83 (((h.2 (cb_eq.2.mp q1)).1 (cb_ne.1.mp q3)).2 (cb_eq.2.mp q4)))))))) (fun q3 => e_aload_n mb_83 dX12_read_127 rfl (e_getr mb_83 dX12_read_128 mf_83.1 fs_49175 fk_12_6 (lk_77 hL) (lr_77_6 hL) (e_iconst mb_83 dX12_read_131 cv_iconst_5 (e_iload_n mb_83 dX12_read_132 rfl (e_imul mb_83 dX12_read_133 ((h.2 (cb_eq.2.mp q1)).2 (cb_ne.2.mp q3)).1 (e_iload_n mb_83 dX12_read_134 rfl (e_iadd mb_83 dX12_read_135 ((h.2 (cb_eq.2.mp q1)).2 (cb_ne.2.mp q3)).2.1 (e_aload_n mb_83 dX12_read_136 rfl (e_iload mb_83 dX12_read_137 rfl (e_callV mb_83 dX12_read_139 mf_83 mf_82 cs_49381 rfl rfl rfl rfl (lk_77 hL) rfl (v_82 hL ((h.2 (cb_eq.2.mp q1)).2 (cb_ne.2.mp q3)).2.2.1 (fun J39 v40 hp41 hp42 hp43 hp44 => (show E _ _ _ _ [aI v40, aI ((5 * x1) + x2), aR (some 82)] _ _ _ _ _ from e_iastore mb_83 dX12_read_142 (lk_82 hL) (ll_82 hL) (((h.2 (cb_eq.2.mp q1)).2 (cb_ne.2.mp q3)).2.2.2 J39 v40 hp41 hp42 hp43 hp44).1 (e_iinc (l1 := [some (aR (some 77)), some (aI x1), some (aI (x2 + 1)), some (aI x3), some (aI x4), some (aI x5), some (aI x6)]) mb_83 dX12_read_143 rfl (((h.2 (cb_eq.2.mp q1)).2 (cb_ne.2.mp q3)).2.2.2 J39 v40 hp41 hp42 hp43 hp44).2.1 rfl (e_aload_n mb_83 dX12_read_146 rfl (e_getv mb_83 dX12_read_147 mf_83.1 fs_49355 (Or.inr fk_12_56) (lk_77 hL) rfl (e_if mb_83 dX12_read_150 rfl (fun q5 => e_iconst mb_83 dX12_read_168 cv_iconst_0 (e_istore (l1 := [some (aR (some 77)), some (aI x1), some (aI (x2 + 1)), some (aI x3), some (aI x4), some (aI 0), some (aI x6)]) mb_83 dX12_read_169 rfl (e_iload mb_83 dX12_read_171 rfl (e_if mb_83 dX12_read_173 rfl (fun _ => e_iload mb_83 dX12_read_189 rfl (e_if mb_83 dX12_read_191 rfl (fun _ => ((((h.2 (cb_eq.2.mp q1)).2 (cb_ne.2.mp q3)).2.2.2 J39 v40 hp41 hp42 hp43 hp44).2.2.1 (cb_ne.1.mp q5))) (fun q => absurd q (by decide)))) (fun q => absurd q (by decide)))))) (fun q5 => e_aload_n mb_83 dX12_read_153 rfl (e_getv mb_83 dX12_read_154 mf_83.1 fs_49352 (Or.inl fk_12_55) (lk_77 hL) rfl (e_aload_n mb_83 dX12_read_157 rfl (e_getv mb_83 dX12_read_158 mf_83.1 fs_49349 (Or.inl fk_12_2) (lk_77 hL) rfl (e_icmp mb_83 dX12_read_161 rfl (fun q6 => e_iconst mb_83 dX12_read_168 cv_iconst_0 (e_istore (l1 := [some (aR (some 77)), some (aI x1), some (aI (x2 + 1)), some (aI x3), some (aI x4), some (aI 0), some (aI x6)]) mb_83 dX12_read_169 rfl (e_iload mb_83 dX12_read_171 rfl (e_if mb_83 dX12_read_173 rfl (fun _ => e_iload mb_83 dX12_read_189 rfl (e_if mb_83 dX12_read_191 rfl (fun _ => (((((h.2 (cb_eq.2.mp q1)).2 (cb_ne.2.mp q3)).2.2.2 J39 v40 hp41 hp42 hp43 hp44).2.2.2 (cb_ne.2.mp q5)).1 (cb_ge.1.mp q6))) (fun q => absurd q (by decide)))) (fun q => absurd q (by decide)))))) (fun q6 => e_iconst mb_83 dX12_read_164 cv_iconst_1 (e_goto mb_83 dX12_read_165 rfl (e_istore (l1 := [some (aR (some 77)), some (aI x1), some (aI (x2 + 1)), some (aI x3), some (aI x4), some (aI 1), some (aI x6)]) mb_83 dX12_read_169 rfl (e_iload mb_83 dX12_read_171 rfl (e_if mb_83 dX12_read_173 rfl (fun q => absurd q (by decide)) (fun _ => e_iload_n mb_83 dX12_read_176 rfl (e_iconst mb_83 dX12_read_177 cv_iconst_5 (e_icmp mb_83 dX12_read_178 rfl (fun q7 => e_iload mb_83 dX12_read_189 rfl (e_if mb_83 dX12_read_191 rfl (fun q => absurd q (by decide)) (fun _ => e_aload_n mb_83 dX12_read_194 rfl (e_bipush mb_83 dX12_read_195 cv_bipush_32 (e_callV mb_83 dX12_read_197 mf_83 mf_77 cs_49363 rfl rfl rfl rfl (lk_77 hL) rfl (v_77 hL ((((((h.2 (cb_eq.2.mp q1)).2 (cb_ne.2.mp q3)).2.2.2 J39 v40 hp41 hp42 hp43 hp44).2.2.2 (cb_ne.2.mp q5)).2 (cb_ge.2.mp q6)).1 (cb_ne.1.mp q7)).1 (fun J45 hp46 hp47 hp48 => (show E _ _ _ _ [] _ _ _ _ _ from e_aload_n mb_83 dX12_read_200 rfl (e_callV mb_83 dX12_read_201 mf_83 mf_76 cs_49359 rfl rfl rfl rfl (lk_77 hL) rfl (v_76x hL (((((((h.2 (cb_eq.2.mp q1)).2 (cb_ne.2.mp q3)).2.2.2 J39 v40 hp41 hp42 hp43 hp44).2.2.2 (cb_ne.2.mp q5)).2 (cb_ge.2.mp q6)).1 (cb_ne.1.mp q7)).2 J45 hp46 hp47 hp48).1 (show E _ _ _ _ (_ :: _) _ _ _ _ _ from e_bipush mb_83 dX12_read_204 cv_bipush_111 (e_icmp mb_83 dX12_read_206 rfl (fun q8 => e_aload_n mb_83 dX12_read_227 rfl (e_bipush mb_83 dX12_read_228 cv_bipush_97 (e_callV mb_83 dX12_read_230 mf_83 mf_77 cs_49363 rfl rfl rfl rfl (lk_77 hL) rfl (v_77 hL ((((((((h.2 (cb_eq.2.mp q1)).2 (cb_ne.2.mp q3)).2.2.2 J39 v40 hp41 hp42 hp43 hp44).2.2.2 (cb_ne.2.mp q5)).2 (cb_ge.2.mp q6)).1 (cb_ne.1.mp q7)).2 J45 hp46 hp47 hp48).2.1 (cb_ne.1.mp q8)).1 (fun J49 hp50 hp51 hp52 => (show E _ _ _ _ [] _ _ _ _ _ from e_aload_n mb_83 dX12_read_233 rfl (e_bipush mb_83 dX12_read_234 cv_bipush_110 (e_callV mb_83 dX12_read_236 mf_83 mf_77 cs_49363 rfl rfl rfl rfl (lk_77 hL) rfl (v_77 hL (((((((((h.2 (cb_eq.2.mp q1)).2 (cb_ne.2.mp q3)).2.2.2 J39 v40 hp41 hp42 hp43 hp44).2.2.2 (cb_ne.2.mp q5)).2 (cb_ge.2.mp q6)).1 (cb_ne.1.mp q7)).2 J45 hp46 hp47 hp48).2.1 (cb_ne.1.mp q8)).2 J49 hp50 hp51 hp52).1 (fun J53 hp54 hp55 hp56 => (show E _ _ _ _ [] _ _ _ _ _ from e_aload_n mb_83 dX12_read_239 rfl (e_bipush mb_83 dX12_read_240 cv_bipush_100 (e_callV mb_83 dX12_read_242 mf_83 mf_77 cs_49363 rfl rfl rfl rfl (lk_77 hL) rfl (v_77 hL ((((((((((h.2 (cb_eq.2.mp q1)).2 (cb_ne.2.mp q3)).2.2.2 J39 v40 hp41 hp42 hp43 hp44).2.2.2 (cb_ne.2.mp q5)).2 (cb_ge.2.mp q6)).1 (cb_ne.1.mp q7)).2 J45 hp46 hp47 hp48).2.1 (cb_ne.1.mp q8)).2 J49 hp50 hp51 hp52).2 J53 hp54 hp55 hp56).1 (fun J57 hp58 hp59 hp60 => (show E _ _ _ _ [] _ _ _ _ _ from e_iconst mb_83 dX12_read_245 cv_iconst_0 (e_istore (l1 := [some (aR (some 77)), some (aI x1), some (aI (x2 + 1)), some (aI x3), some (aI x4), some (aI 1), some (aI 0)]) mb_83 dX12_read_246 rfl (e_aload_n mb_83 dX12_read_248 rfl (e_bipush mb_83 dX12_read_249 cv_bipush_32 (e_callV mb_83 dX12_read_251 mf_83 mf_77 cs_49363 rfl rfl rfl rfl (lk_77 hL) rfl (v_77 hL (((((((((((h.2 (cb_eq.2.mp q1)).2 (cb_ne.2.mp q3)).2.2.2 J39 v40 hp41 hp42 hp43 hp44).2.2.2 (cb_ne.2.mp q5)).2 (cb_ge.2.mp q6)).1 (cb_ne.1.mp q7)).2 J45 hp46 hp47 hp48).2.1 (cb_ne.1.mp q8)).2 J49 hp50 hp51 hp52).2 J53 hp54 hp55 hp56).2 J57 hp58 hp59 hp60).1 (fun J61 hp62 hp63 hp64 => (show E _ _ _ _ [] _ _ _ _ _ from e_goto mb_83 dX12_read_254 rfl (((((((((((((h.2 (cb_eq.2.mp q1)).2 (cb_ne.2.mp q3)).2.2.2 J39 v40 hp41 hp42 hp43 hp44).2.2.2 (cb_ne.2.mp q5)).2 (cb_ge.2.mp q6)).1 (cb_ne.1.mp q7)).2 J45 hp46 hp47 hp48).2.1 (cb_ne.1.mp q8)).2 J49 hp50 hp51 hp52).2 J53 hp54 hp55 hp56).2 J57 hp58 hp59 hp60).2 J61 hp62 hp63 hp64))))))))))))))))))))))))) (fun q8 => e_aload_n mb_83 dX12_read_209 rfl (e_bipush mb_83 dX12_read_210 cv_bipush_111 (e_callV mb_83 dX12_read_212 mf_83 mf_77 cs_49363 rfl rfl rfl rfl (lk_77 hL) rfl (v_77 hL ((((((((h.2 (cb_eq.2.mp q1)).2 (cb_ne.2.mp q3)).2.2.2 J39 v40 hp41 hp42 hp43 hp44).2.2.2 (cb_ne.2.mp q5)).2 (cb_ge.2.mp q6)).1 (cb_ne.1.mp q7)).2 J45 hp46 hp47 hp48).2.2 (cb_ne.2.mp q8)).1 (fun J65 hp66 hp67 hp68 => (show E _ _ _ _ [] _ _ _ _ _ from e_aload_n mb_83 dX12_read_215 rfl (e_bipush mb_83 dX12_read_216 cv_bipush_114 (e_callV mb_83 dX12_read_218 mf_83 mf_77 cs_49363 rfl rfl rfl rfl (lk_77 hL) rfl (v_77 hL (((((((((h.2 (cb_eq.2.mp q1)).2 (cb_ne.2.mp q3)).2.2.2 J39 v40 hp41 hp42 hp43 hp44).2.2.2 (cb_ne.2.mp q5)).2 (cb_ge.2.mp q6)).1 (cb_ne.1.mp q7)).2 J45 hp46 hp47 hp48).2.2 (cb_ne.2.mp q8)).2 J65 hp66 hp67 hp68).1 (fun J69 hp70 hp71 hp72 => (show E _ _ _ _ [] _ _ _ _ _ from e_iconst mb_83 dX12_read_221 cv_iconst_1 (e_istore (l1 := [some (aR (some 77)), some (aI x1), some (aI (x2 + 1)), some (aI x3), some (aI x4), some (aI 1), some (aI 1)]) mb_83 dX12_read_222 rfl (e_goto mb_83 dX12_read_224 rfl (e_aload_n mb_83 dX12_read_248 rfl (e_bipush mb_83 dX12_read_249 cv_bipush_32 (e_callV mb_83 dX12_read_251 mf_83 mf_77 cs_49363 rfl rfl rfl rfl (lk_77 hL) rfl (v_77 hL ((((((((((h.2 (cb_eq.2.mp q1)).2 (cb_ne.2.mp q3)).2.2.2 J39 v40 hp41 hp42 hp43 hp44).2.2.2 (cb_ne.2.mp q5)).2 (cb_ge.2.mp q6)).1 (cb_ne.1.mp q7)).2 J45 hp46 hp47 hp48).2.2 (cb_ne.2.mp q8)).2 J65 hp66 hp67 hp68).2 J69 hp70 hp71 hp72).1 (fun J73 hp74 hp75 hp76 => (show E _ _ _ _ [] _ _ _ _ _ from e_goto mb_83 dX12_read_254 rfl ((((((((((((h.2 (cb_eq.2.mp q1)).2 (cb_ne.2.mp q3)).2.2.2 J39 v40 hp41 hp42 hp43 hp44).2.2.2 (cb_ne.2.mp q5)).2 (cb_ge.2.mp q6)).1 (cb_ne.1.mp q7)).2 J45 hp46 hp47 hp48).2.2 (cb_ne.2.mp q8)).2 J65 hp66 hp67 hp68).2 J69 hp70 hp71 hp72).2 J73 hp74 hp75 hp76))))))))))))))))))))))))))))))))) (fun q7 => e_aload_n mb_83 dX12_read_181 rfl (e_iconst mb_83 dX12_read_182 cv_iconst_1 (e_putb mb_83 dX12_read_183 mf_83.1 fs_49355 fk_12_56 (Or.inl ff_12_56) (lk_77 hL) (Or.inr rfl) (e_goto mb_83 dX12_read_186 rfl (((((((h.2 (cb_eq.2.mp q1)).2 (cb_ne.2.mp q3)).2.2.2 J39 v40 hp41 hp42 hp43 hp44).2.2.2 (cb_ne.2.mp q5)).2 (cb_ge.2.mp q6)).2 (cb_ne.2.mp q7)))))))))))))))))))))))))))))))))))))))))
theorem v_83 {sc : Nat × (Nat → Int)} {I : IH} {L : LH} {R : RH} {K : KH} {Q : AQ} {a : Int} (hL : Lay R K) (hp : (0 ≤ a ∧ a < 96) ∧ 0 ≤ I 77 2 ∧ I 77 2 ≤ 90) (h : ∀ J, FrZ a.toNat I J → ((textS (bM I) (I 77 2).toNat).2.1 = true → J 79 a.toNat = (textS (bM I) (I 77 2).toNat).2.2.1 ∧ J 80 a.toNat = (textS (bM I) (I 77 2).toNat).2.2.2.1 ∧ J 81 a.toNat = ((textS (bM I) (I 77 2).toNat).2.2.2.2.length : Int) ∧ MDone J a.toNat (textS (bM I) (I 77 2).toNat).2.2.2.2) → ((textS (bM I) (I 77 2).toNat).2.1 = false → FrY a.toNat I J) → ((textS (bM I) (I 77 2).toNat).2.1 = false → (textS (bM I) (I 77 2).toNat).1 ≤ 90) → Q (some (aI (fltV (textS (bM I) (I 77 2).toNat)))) J L R K) : E sc 83 0 [some (aR (some 77)), some (aI a), none, none, none, none, none] [] I L R K Q := by
  obtain ⟨ha, hn1, hn2⟩ := hp
  have hl0 : I 77 2 = (((I 77 2).toNat : Nat) : Int) := by omega
  have bad : ∀ (J : IH), FrY a.toNat I J → MOK J → (stM J).1 = (textS (bM I) (I 77 2).toNat).1 → (textS (bM I) (I 77 2).toNat).2.1 = false → Q (some (aI (J 77 55))) J L R K := fun J g1 g2 g3 g4 => by
    have := h J (fun a j q1 q2 _ => g1 a j q1 q2) (fun g => by rw [g4] at g; cases g) (fun _ => g1) (fun _ => by rw [← g3]; have := st_55 g2; have := g2.2.1; have := g2.2.2; omega)
    unfold fltV at this
    rw [if_neg (by rw [g4]; decide), ← g3, ← st_55 g2] at this
    exact this
  have good : ∀ (J : IH) (x3 x4 n : Int), FrY a.toNat I J → (textS (bM I) (I 77 2).toNat).2.1 = true → (textS (bM I) (I 77 2).toNat).2.2.1 = x4 → (textS (bM I) (I 77 2).toNat).2.2.2.1 = x3 → ((textS (bM I) (I 77 2).toNat).2.2.2.2.length : Int) = n → MDone J a.toNat (textS (bM I) (I 77 2).toNat).2.2.2.2 → Q (some (aI (-1))) (setF (setF (setF J 79 a.toNat x4) 80 a.toNat x3) 81 a.toNat n) L R K := fun J x3 x4 n g1 g2 g3 g4 g5 g6 => by
    have := h (setF (setF (setF J 79 a.toNat x4) 80 a.toNat x3) 81 a.toNat n) (fun c j q1 q2 q3 => by rw [setF_n (by omega), setF_n (by omega), setF_n (by omega)]; exact g1 c j q1 q2) (fun _ => ⟨by rw [setF_n (by omega), setF_n (by omega), setF_s, g3], by rw [setF_n (by omega), setF_s, g4], by rw [setF_s, g5], fun k hk => by rw [setF_n (by omega), setF_n (by omega), setF_n (by omega)]; exact g6 k hk⟩) (fun g => by rw [g2] at g; cases g) (fun g => by rw [g2] at g; cases g)
    unfold fltV at this
    rw [if_pos g2] at this
    exact this
  generalize hlen : (I 77 2).toNat = len at *
  generalize hb : bM I = b at *
  generalize ht : a.toNat = t at *
  have eb : ∀ J, FrY t I J → bM J = b := fun J f => by rw [bM_fry f, hb]
  have stopF : ∀ (J : IH) (x2 x3 x4 x5 x6 : Int), J 77 56 ≠ 0 → Q (some (aI (J 77 55))) J L R K → E sc 83 115 [some (aR (some 77)), some (aI a), some (aI x2), some (aI x3), some (aI x4), some (aI x5), some (aI x6)] [] J L R K Q := fun J x2 x3 x4 x5 x6 hf hq => w_83_115 hL ⟨fun q => ⟨fun z => absurd z hf, fun _ => hq⟩, fun q => ⟨fun _ => ⟨fun z => absurd z hf, fun _ => hq⟩, fun z => absurd z hf⟩⟩
  have finish : ∀ (J : IH) (x2 x3 x4 x6 : Int), J 77 56 = 0 → (x3 = 0 ∨ x3 = 1) → Q (some (aI (-1))) (setF (setF (setF J 79 t x4) 80 t x3) 81 t x2) L R K → E sc 83 115 [some (aR (some 77)), some (aI a), some (aI x2), some (aI x3), some (aI x4), some (aI 0), some (aI x6)] [] J L R K Q := fun J x2 x3 x4 x6 hf h3 hq => w_83_115 hL ⟨fun q => ⟨fun _ => ⟨ha, ⟨ha, h3⟩, ha, by rw [ht]; exact hq⟩, fun z => absurd hf z⟩, fun n => absurd rfl n⟩
  have key : ∀ (k : Nat) (o x2 x3 x4 : Int) (p : Nat) (cs : List Int) (J : IH), x2 = (cs.length : Int) → cs.length + k = 4 → (o = 0 ∨ o = 1) → (x3 = 0 ∨ x3 = 1) → FrY t I J → MOK J → stM J = (p, true) → MDone J t cs → (∀ J' : IH, FrY t I J' → MOK J' → (stM J').1 = (tsA b len k o p).1 → (tsA b len k o p).2.1 = false → Q (some (aI (J' 77 55))) J' L R K) → (∀ (J' : IH) (n : Int), FrY t I J' → (tsA b len k o p).2.1 = true → ((cs ++ (tsA b len k o p).2.2).length : Int) = n → MDone J' t (cs ++ (tsA b len k o p).2.2) → Q (some (aI (-1))) (setF (setF (setF J' 79 t x4) 80 t x3) 81 t n) L R K) → E sc 83 115 [some (aR (some 77)), some (aI a), some (aI x2), some (aI x3), some (aI x4), some (aI 1), some (aI o)] [] J L R K Q := by
    intro k
    induction k with
    | zero =>
      intro o x2 x3 x4 p cs J hx hk ho h3 fy m7 s7 dn hbad hgood
      have ok7 : J 77 56 = 0 := st_56.1 (by rw [s7])
      have hp7 : (stM J).1 = p := by rw [s7]
      refine w_83_115 hL ⟨fun q => by omega, fun _ => ⟨fun z => absurd ok7 z, fun _ => ⟨by omega, by omega, ⟨m7, by rw [s7], by omega, by omega⟩, fun J1 v f1 t1 m1 c1 => ⟨by omega, by omega, ?_⟩⟩⟩⟩
      rw [eb J fy, hp7] at t1 c1
      have fy1 := fry_m fy f1
      have ei : (5 * a + x2).toNat = 5 * t + cs.length := by omega
      rw [ei]
      have len1 : J1 77 2 = (len : Int) := by rw [fy1 77 2 (by omega) (by omega)]; exact hl0
      have fy8 : FrY t I (setF J1 82 (5 * t + cs.length) v) := fry_8 fy1 (by omega)
      have m8 : MOK (setF J1 82 (5 * t + cs.length) v) := mok_t82 m1
      have a55 := st_55 m1
      have s1 : (stM J1).1 = (testS b p).1 := by rw [t1]
      by_cases qt : (testS b p).2.1 = true
      · have ok1 : J1 77 56 = 0 := st_56.1 (by rw [t1]; exact qt)
        have v1 := c1 qt
        have e8 : stM (setF J1 82 (5 * t + cs.length) v) = ((testS b p).1, true) := by rw [st_82, t1, qt]
        have dn8 : MDone (setF J1 82 (5 * t + cs.length) v) t (cs ++ [1000 * o + (testS b p).2.2]) := by rw [← v1]; exact md_step (md_m dn f1)
        have el : (cs ++ [1000 * o + (testS b p).2.2]).length = cs.length + 1 := by rw [List.length_append]; rfl
        have ok8 : setF J1 82 (5 * t + cs.length) v 77 56 = 0 := by rw [setF_n (by omega)]; exact ok1
        refine ⟨fun z => absurd ok1 z, fun _ => ⟨fun ge => ?_, fun lt => ?_⟩⟩
        · have et : tsA b len 0 o p = ((testS b p).1, true, [1000 * o + (testS b p).2.2]) := by
            unfold tsA
            rw [if_pos qt]
            have : aftS b len 0 (testS b p).1 = ((testS b p).1, true, []) := by rw [aftS, decide_eq_true (by omega)]
            rw [this]
          rw [et] at hgood
          exact finish _ _ _ _ _ ok8 h3 (hgood _ (x2 + 1) fy8 rfl (by rw [el]; omega) dn8)
        · refine ⟨fun ne => by omega, fun _ => ?_⟩
          have bs := bad_st (J := setF J1 82 (5 * t + cs.length) v)
          have et : tsA b len 0 o p = ((testS b p).1, false, [1000 * o + (testS b p).2.2]) := by
            unfold tsA
            rw [if_pos qt]
            have : aftS b len 0 (testS b p).1 = ((testS b p).1, false, []) := by rw [aftS, decide_eq_false (by omega)]
            rw [this]
          rw [et] at hbad
          exact stopF _ _ _ _ _ _ (by rw [setF_s]; decide) (hbad _ (fry_m fy8 bs.2.2.2) (bs.2.2.1 m8) (by rw [bs.1, e8]) rfl)
      · have e0 : (testS b p).2.1 = false := by simpa using qt
        have et : tsA b len 0 o p = ((testS b p).1, false, []) := by unfold tsA; rw [if_neg qt]
        rw [et] at hbad
        have nk : J1 77 56 ≠ 0 := st_56.2 (by rw [t1]; exact e0)
        exact ⟨fun _ => stopF _ _ _ _ _ _ (by rw [setF_n (by omega)]; exact nk) (hbad _ fy8 m8 (by rw [st_82]; exact s1) rfl), fun z => absurd z nk⟩
    | succ k ih =>
      intro o x2 x3 x4 p cs J hx hk ho h3 fy m7 s7 dn hbad hgood
      have ok7 : J 77 56 = 0 := st_56.1 (by rw [s7])
      have hp7 : (stM J).1 = p := by rw [s7]
      refine w_83_115 hL ⟨fun q => by omega, fun _ => ⟨fun z => absurd ok7 z, fun _ => ⟨by omega, by omega, ⟨m7, by rw [s7], by omega, by omega⟩, fun J1 v f1 t1 m1 c1 => ⟨by omega, by omega, ?_⟩⟩⟩⟩
      rw [eb J fy, hp7] at t1 c1
      have fy1 := fry_m fy f1
      have ei : (5 * a + x2).toNat = 5 * t + cs.length := by omega
      rw [ei]
      have len1 : J1 77 2 = (len : Int) := by rw [fy1 77 2 (by omega) (by omega)]; exact hl0
      have fy8 : FrY t I (setF J1 82 (5 * t + cs.length) v) := fry_8 fy1 (by omega)
      have m8 : MOK (setF J1 82 (5 * t + cs.length) v) := mok_t82 m1
      have a55 := st_55 m1
      have s1 : (stM J1).1 = (testS b p).1 := by rw [t1]
      by_cases qt : (testS b p).2.1 = true
      · have ok1 : J1 77 56 = 0 := st_56.1 (by rw [t1]; exact qt)
        have v1 := c1 qt
        have e8 : stM (setF J1 82 (5 * t + cs.length) v) = ((testS b p).1, true) := by rw [st_82, t1, qt]
        have dn8 : MDone (setF J1 82 (5 * t + cs.length) v) t (cs ++ [1000 * o + (testS b p).2.2]) := by rw [← v1]; exact md_step (md_m dn f1)
        have el : (cs ++ [1000 * o + (testS b p).2.2]).length = cs.length + 1 := by rw [List.length_append]; rfl
        have ok8 : setF J1 82 (5 * t + cs.length) v 77 56 = 0 := by rw [setF_n (by omega)]; exact ok1
        refine ⟨fun z => absurd ok1 z, fun _ => ⟨fun ge => ?_, fun lt => ?_⟩⟩
        · have et : tsA b len (k + 1) o p = ((testS b p).1, true, [1000 * o + (testS b p).2.2]) := by
            unfold tsA
            rw [if_pos qt]
            have : aftS b len (k + 1) (testS b p).1 = ((testS b p).1, true, []) := by rw [aftS, if_pos (by omega)]
            rw [this]
          rw [et] at hgood
          exact finish _ _ _ _ _ ok8 h3 (hgood _ (x2 + 1) fy8 rfl (by rw [el]; omega) dn8)
        · refine ⟨fun ne => ⟨⟨m8, by omega⟩, fun J2 f2 t2 m2 => ⟨m2, ?_⟩⟩, fun e5 => by omega⟩
          have fy2 := fry_m fy8 f2
          have nl : ¬ len ≤ (testS b p).1 := by omega
          have t2 : stM J2 = wd b (strF 11) (testS b p).1 := by
            rw [t2, eb _ fy8, e8]
            exact eatL_wd [32] _
          have dn2 := md_m dn8 f2
          rw [eb J2 fy2, t2]
          have et : tsA b len (k + 1) o p = ((aftS b len (k + 1) (testS b p).1).1, (aftS b len (k + 1) (testS b p).1).2.1, (1000 * o + (testS b p).2.2) :: (aftS b len (k + 1) (testS b p).1).2.2) := by unfold tsA; rw [if_pos qt]
          rw [et] at hbad hgood
          generalize (testS b p).1 = p' at *
          generalize 1000 * o + (testS b p).2.2 = C at *
          have lk : ∀ (n : Nat) (u : Int) (H : IH), (u = 0 ∨ u = 1) → FrY t I H → MOK H → MDone H t (cs ++ [C]) → stM H = eatL b (strF n) (wd b (strF 11) p') → ((wd b (strF 11) p').2 = true → linkS b p' = ((wd b (strF n) (wd b (strF 11) p').1).1, (wd b (strF n) (wd b (strF 11) p').1).2, u)) → E sc 83 115 [some (aR (some 77)), some (aI a), some (aI (x2 + 1)), some (aI x3), some (aI x4), some (aI 1), some (aI u)] [] H L R K Q := by
            intro n u H hu fyH mH dnH sH hl
            by_cases qw : (wd b (strF 11) p').2 = true
            · have sH : stM H = wd b (strF n) (wd b (strF 11) p').1 := by
                rw [sH, show wd b (strF 11) p' = ((wd b (strF 11) p').1, true) from Prod.ext rfl qw]; exact eatL_wd _ _
              have hl := hl qw
              by_cases qs : (wd b (strF n) (wd b (strF 11) p').1).2 = true
              · rw [qs] at hl
                rw [aft_ts nl hl] at hbad hgood
                refine ih u (x2 + 1) x3 x4 (wd b (strF n) (wd b (strF 11) p').1).1 (cs ++ [C]) H (by rw [el]; omega) (by rw [el]; omega) hu h3 fyH mH (by rw [sH]; exact Prod.ext rfl qs) dnH (fun J' g1 g2 g3 g4 => hbad J' g1 g2 g3 g4) (fun J' n g1 g2 g3 g4 => hgood J' n g1 g2 ?_ ?_)
                · rw [List.append_assoc] at g3; exact g3
                · rw [List.append_assoc] at g4; exact g4
              · have qs : (wd b (strF n) (wd b (strF 11) p').1).2 = false := by simpa using qs
                rw [aft_lf nl (by rw [hl]; exact qs), hl] at hbad
                exact stopF H _ _ _ _ _ (st_56.2 (by rw [sH]; exact qs)) (hbad H fyH mH (by rw [sH]) rfl)
            · have qw : (wd b (strF 11) p').2 = false := by simpa using qw
              have sH : stM H = ((wd b (strF 11) p').1, false) := by
                rw [sH, show wd b (strF 11) p' = ((wd b (strF 11) p').1, false) from Prod.ext rfl qw]; exact eatL_f _ _
              have hl : linkS b p' = ((wd b (strF 11) p').1, false, 0) := by unfold linkS; rw [if_neg (by rw [qw]; decide)]
              rw [aft_lf nl (by rw [hl]), hl] at hbad
              exact stopF H _ _ _ _ _ (st_56.2 (by rw [sH])) (hbad H fyH mH (by rw [sH]) rfl)
          refine ⟨fun qo => ⟨⟨m2, by omega⟩, fun J3 f3 t3 m3 => ⟨⟨m3, by omega⟩, fun J4 f4 t4 m4 => ⟨⟨m4, by omega⟩, fun J5 f5 t5 m5 => ⟨⟨m5, by omega⟩, fun J6 f6 t6 m6 => ?_⟩⟩⟩⟩, fun qo => ⟨⟨m2, by omega⟩, fun J3 f3 t3 m3 => ⟨⟨m3, by omega⟩, fun J4 f4 t4 m4 => ⟨⟨m4, by omega⟩, fun J5 f5 t5 m5 => ?_⟩⟩⟩⟩
          · have fy3 := fry_m fy2 f3
            have fy4 := fry_m fy3 f4
            have fy5 := fry_m fy4 f5
            refine lk 15 0 J6 (.inl rfl) (fry_m fy5 f6) m6 (md_m (md_m (md_m (md_m dn2 f3) f4) f5) f6) ?_ (fun qw => by unfold linkS; rw [if_pos qw, if_neg qo])
            rw [t6, eb J5 fy5, t5, eb J4 fy4, t4, eb J3 fy3, t3]
            rfl
          · have fy3 := fry_m fy2 f3
            have fy4 := fry_m fy3 f4
            refine lk 14 1 J5 (.inr rfl) (fry_m fy4 f5) m5 (md_m (md_m (md_m dn2 f3) f4) f5) ?_ (fun qw => by unfold linkS; rw [if_pos qw, if_pos qo])
            rw [t5, eb J4 fy4, t4, eb J3 fy3, t3]
            rfl
      · have e0 : (testS b p).2.1 = false := by simpa using qt
        have et : tsA b len (k + 1) o p = ((testS b p).1, false, []) := by unfold tsA; rw [if_neg qt]
        rw [et] at hbad
        have nk : J1 77 56 ≠ 0 := st_56.2 (by rw [t1]; exact e0)
        exact ⟨fun _ => stopF _ _ _ _ _ _ (by rw [setF_n (by omega)]; exact nk) (hbad _ fy8 m8 (by rw [st_82]; exact s1) rfl), fun z => absurd z nk⟩
  have f0 : FrY t I (setF (setF I 77 55 0) 77 56 0) := fun c j q1 q2 => by rw [setF_n (by omega), setF_n (by omega)]
  have m0 : MOK (setF (setF I 77 55 0) 77 56 0) := by
    unfold MOK
    rw [setF_n (by omega), setF_s, setF_n (by omega), setF_n (by omega)]
    omega
  have s0 : stM (setF (setF I 77 55 0) 77 56 0) = (0, true) := by
    unfold stM
    rw [setF_n (by omega), setF_s, setF_s]
    rfl
  refine w_83_0 hL ?_
  rw [eb _ f0, s0]
  refine ⟨⟨m0, rfl⟩, fun J1 v f1 t1 m1 c1 => ?_⟩
  have fy1 := fry_m f0 f1
  have p1 : (stM J1).1 = (endS b 0).1 := by rw [t1]
  have len1 : J1 77 2 = (len : Int) := by rw [fy1 77 2 (by omega) (by omega)]; exact hl0
  have a55 := st_55 m1
  by_cases qe : (endS b 0).2.1 = true
  · have ok1 : J1 77 56 = 0 := st_56.1 (by rw [t1]; exact qe)
    have v1 := c1 qe
    refine ⟨fun z => absurd ok1 z, fun _ => ⟨fun ge => ?_, fun lt => ?_⟩⟩
    · have ex : textS b len = ((endS b 0).1, true, (endS b 0).2.2, 0, []) := by unfold textS; rw [if_pos qe, if_pos (by omega)]
      rw [ex] at good
      exact finish J1 0 0 v 0 ok1 (.inl rfl) (good J1 0 v 0 fy1 rfl v1.symm rfl rfl (fun k hk => absurd hk (Nat.not_lt_zero _)))
    · have ex : textS b len = ((conS b len (endS b 0).1).1, (conS b len (endS b 0).1).2.1, (endS b 0).2.2, (conS b len (endS b 0).1).2.2.1, (conS b len (endS b 0).1).2.2.2) := by unfold textS; rw [if_pos qe, if_neg (by omega)]
      rw [ex] at bad good
      refine ⟨⟨m1, by omega⟩, fun J2 f2 t2 m2 => ⟨m2, ?_⟩⟩
      have fy2 := fry_m fy1 f2
      have t2 : stM J2 = wd b (strF 11) (endS b 0).1 := by
        rw [t2, eb J1 fy1, t1, qe]
        exact eatL_wd [32] _
      rw [eb J2 fy2, t2]
      generalize (endS b 0).1 = p at *
      have cd : ∀ (n : Nat) (u : Int) (J : IH), (u = 0 ∨ u = 1) → FrY t I J → MOK J → stM J = eatL b (strF n) (wd b (strF 11) p) → ((wd b (strF 11) p).2 = true → conS b len p = conT b len u (wd b (strF n) (wd b (strF 11) p).1)) → E sc 83 115 [some (aR (some 77)), some (aI a), some (aI 0), some (aI u), some (aI v), some (aI 1), some (aI 0)] [] J L R K Q := by
        intro n u J hu fy mJ sJ hc
        by_cases qw : (wd b (strF 11) p).2 = true
        · have sJ : stM J = wd b (strF n) (wd b (strF 11) p).1 := by
            rw [sJ, show wd b (strF 11) p = ((wd b (strF 11) p).1, true) from Prod.ext rfl qw]; exact eatL_wd _ _
          rw [hc qw] at bad good
          by_cases qs : (wd b (strF n) (wd b (strF 11) p).1).2 = true
          · rw [con_ts qs] at bad good
            refine key 4 0 0 u v (wd b (strF n) (wd b (strF 11) p).1).1 [] J rfl rfl (.inl rfl) hu fy mJ (by rw [sJ]; exact Prod.ext rfl qs) (fun k hk => absurd hk (Nat.not_lt_zero _)) (fun J' g1 g2 g3 g4 => bad J' g1 g2 g3 g4) (fun J' n g1 g2 g3 g4 => good J' u v n g1 g2 v1.symm rfl g3 g4)
          · have ec : conT b len u (wd b (strF n) (wd b (strF 11) p).1) = ((wd b (strF n) (wd b (strF 11) p).1).1, false, u, []) := by unfold conT; rw [if_neg qs]
            rw [ec] at bad
            exact stopF J _ _ _ _ _ (st_56.2 (by rw [sJ]; simpa using qs)) (bad J fy mJ (by rw [sJ]) rfl)
        · have sJ : stM J = ((wd b (strF 11) p).1, false) := by
            rw [sJ, show wd b (strF 11) p = ((wd b (strF 11) p).1, false) from Prod.ext rfl (by simpa using qw)]; exact eatL_f _ _
          have ec : conS b len p = ((wd b (strF 11) p).1, false, 0, []) := by unfold conS; rw [if_neg qw]
          rw [ec] at bad
          exact stopF J _ _ _ _ _ (st_56.2 (by rw [sJ])) (bad J fy mJ (by rw [sJ]) rfl)
      refine ⟨fun qu => ⟨⟨m2, by omega⟩, fun J3 f3 t3 m3 => ⟨⟨m3, by omega⟩, fun J4 f4 t4 m4 => ⟨⟨m4, by omega⟩, fun J5 f5 t5 m5 => ?_⟩⟩⟩, fun qu => ⟨⟨m2, by omega, by omega, by omega, by omega⟩, fun J3 f3 t3 m3 => ⟨⟨m3, by omega⟩, fun J4 f4 t4 m4 => ⟨⟨m4, by omega⟩, fun J5 f5 t5 m5 => ⟨⟨m5, by omega⟩, fun J6 f6 t6 m6 => ?_⟩⟩⟩⟩⟩
      · have fy3 := fry_m fy2 f3
        have fy4 := fry_m fy3 f4
        refine cd 13 0 J5 (.inl rfl) (fry_m fy4 f5) m5 ?_ (fun qw => by unfold conS; rw [if_pos qw, if_neg qu])
        rw [t5, eb J4 fy4, t4, eb J3 fy3, t3]
        rfl
      · have fy3 := fry_m fy2 f3
        have fy4 := fry_m fy3 f4
        have fy5 := fry_m fy4 f5
        refine cd 12 1 J6 (.inr rfl) (fry_m fy5 f6) m6 ?_ (fun qw => by unfold conS; rw [if_pos qw, if_pos qu])
        rw [t6, eb J5 fy5, t5, eb J4 fy4, t4, eb J3 fy3, t3]
        rfl
  · have e0 : (endS b 0).2.1 = false := by simpa using qe
    have ex : textS b len = ((endS b 0).1, false, 0, 0, []) := by unfold textS; rw [if_neg qe]
    rw [ex] at bad
    have nk : J1 77 56 ≠ 0 := st_56.2 (by rw [t1]; exact e0)
    exact ⟨fun _ => stopF J1 _ _ _ _ _ nk (bad J1 fy1 m1 p1 rfl), fun z => absurd z nk⟩
