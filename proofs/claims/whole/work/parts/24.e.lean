/-! E: a run that ends as wanted, and its rows -/
abbrev AQ : Type := Option AV → IH → LH → RH → KH → Prop
def E (sc : Nat × (Nat → Int)) (mi pc : Nat) (ls : ALs) (st : List AV) (I : IH) (L : LH) (R : RH) (K : KH) (Q : AQ) : Prop := ∃ (f : Nat) (rv : Option AV) (I1 : IH) (L1 : LH) (R1 : RH) (K1 : KH), amRun sc f mi pc ls st I L R K = some (rv, I1, L1, R1, K1) ∧ Q rv I1 L1 R1 K1
theorem run_le {sc : Nat × (Nat → Int)} {f g mi pc : Nat} {ls : ALs} {st : List AV} {I : IH} {L : LH} {R : RH} {K : KH} {res : ARes} (h : amRun sc f mi pc ls st I L R K = some res) (hg : f ≤ g) : amRun sc g mi pc ls st I L R K = some res := by
  induction g with
  | zero =>
    obtain rfl : f = 0 := by omega
    exact h
  | succ g ih =>
    by_cases e : f = g + 1
    · rw [← e]; exact h
    · exact run_mono _ _ _ _ _ _ _ _ _ _ (ih (by omega))
section
variable {sc : Nat × (Nat → Int)} {mi pc : Nat} {ls : ALs} {st : List AV} {I : IH} {L : LH} {R : RH} {K : KH} {Q : AQ} {b : ByteArray}
theorem E.mono {Q1 : AQ} (h : E sc mi pc ls st I L R K Q1) (hq : ∀ rv I1 L1 R1 K1, Q1 rv I1 L1 R1 K1 → Q rv I1 L1 R1 K1) : E sc mi pc ls st I L R K Q := by
  obtain ⟨f, rv, I1, L1, R1, K1, h1, h2⟩ := h
  exact ⟨f, rv, I1, L1, R1, K1, h1, hq _ _ _ _ _ h2⟩
theorem e_st {i : Instr} {n : Nat} (hb : mBytes mi = b) (hd : decode b pc = .ok (i, n)) (hn : insLen i n = true) (hi : isStep i = true) {g : ACfg} (hs : stepL sc mi i n pc ls st I L R K = some g) (h : E sc mi g.1 g.2.1 g.2.2.1 g.2.2.2.1 g.2.2.2.2.1 g.2.2.2.2.2.1 g.2.2.2.2.2.2 Q) : E sc mi pc ls st I L R K Q := by
  obtain ⟨f, rv, I1, L1, R1, K1, h1, h2⟩ := h
  exact ⟨f + 1, rv, I1, L1, R1, K1, run_step (hb ▸ hd) hn hi hs h1, h2⟩
theorem e_ireturn {x : Int} (hb : mBytes mi = b) (hd : decode b pc = .ok (.ireturn, 1)) (hr : retI mi x = true) (h : Q (some (aI x)) I L R K) : E sc mi pc ls [aI x] I L R K Q :=
  ⟨1, _, I, L, R, K, run_ireturn (hb ▸ hd) hr, h⟩
theorem e_areturn {a : Nat} (hb : mBytes mi = b) (hd : decode b pc = .ok (.areturn, 1)) (hr : retA mi = true) (h : Q (some (aR (some a))) I L R K) : E sc mi pc ls [aR (some a)] I L R K Q :=
  ⟨1, _, I, L, R, K, run_areturn (hb ▸ hd) hr, h⟩
theorem e_areturnF {a : Nat} (hb : mBytes mi = b) (hd : decode b pc = .ok (.areturn, 1)) (hr : retA mi = true) (h : Q (some (aF a)) I L R K) : E sc mi pc ls [aF a] I L R K Q :=
  ⟨1, _, I, L, R, K, run_areturnF (hb ▸ hd) hr, h⟩
theorem e_return (hb : mBytes mi = b) (hd : decode b pc = .ok (.return_, 1)) (hr : mRet mi = none) (h : Q none I L R K) : E sc mi pc ls [] I L R K Q :=
  ⟨1, _, I, L, R, K, run_return (hb ▸ hd) hr, h⟩
theorem e_call {ks idx cmi : Nat} {as r : List AV} {l0 : ALs} (hb : mBytes mi = b) (hd : decode b pc = .ok (invI ks idx, 3)) (hp : plainCall mi ks idx cmi = true) (hco : callOf mi idx ks st K = some (cmi, as, r)) (hl : padL (mMaxL cmi) (mkL as) = l0) (h : E sc cmi 0 l0 [] I L R K fun rv I1 L1 R1 K1 => E sc mi (pc + 3) ls (rv.toList ++ r) I1 L1 R1 K1 Q) : E sc mi pc ls st I L R K Q := by
  obtain ⟨f, rv, I1, L1, R1, K1, h1, g, rv2, I2, L2, R2, K2, h2, hq⟩ := h
  refine ⟨max f g + 1, rv2, I2, L2, R2, K2, run_call (hb ▸ hd) hp hco (hl ▸ run_le h1 (by omega)) (run_le h2 (by omega)), hq⟩
theorem e_copy {idx : Nat} {k dp sp : Int} {a c : Nat} {r : List AV} (hb : mBytes mi = b) (hd : decode b pc = .ok (.invokestatic idx, 3)) (hc : isCopy (mOwn mi) idx = true) (hcc : K.1 a = 100 ∧ K.1 c = 100 ∧ 0 ≤ k ∧ 0 ≤ sp ∧ 0 ≤ dp ∧ sp + k ≤ (K.2.1 a : Nat) ∧ dp + k ≤ (K.2.1 c : Nat) ∧ catS r ≤ 8 ∧ 1 ≤ mLvl mi) (h : E sc mi (pc + 3) ls r (copyI I a sp.toNat c dp.toNat k.toNat) L R K Q) : E sc mi pc ls (aI k :: aI dp :: aR (some c) :: aI sp :: aR (some a) :: r) I L R K Q := by
  obtain ⟨f, rv, I1, L1, R1, K1, h1, h2⟩ := h
  exact ⟨f + 1, rv, I1, L1, R1, K1, run_copy (hb ▸ hd) hc hcc h1, h2⟩
theorem e_mm {idx cmi : Nat} {x y : Int} {r : List AV} (hb : mBytes mi = b) (hd : decode b pc = .ok (.invokestatic idx, 3)) (hc : isCopy (mOwn mi) idx = false) (hm : isMM cmi = true) (hco : callOf mi idx 0 st K = some (cmi, [aI x, aI y], r)) (h : E sc mi (pc + 3) ls (aI (minMax cmi x y) :: r) I L R K Q) : E sc mi pc ls st I L R K Q := by
  obtain ⟨f, rv, I1, L1, R1, K1, h1, h2⟩ := h
  exact ⟨f + 1, rv, I1, L1, R1, K1, run_mm (hb ▸ hd) hc hm hco h1, h2⟩
theorem e_str {idx cmi : Nat} {as r : List AV} {x : Int} (hb : mBytes mi = b) (hd : decode b pc = .ok (.invokevirtual idx, 3)) (hm : isStr cmi = true) (hco : callOf mi idx 1 st K = some (cmi, as, r)) (hp : amPrim cmi as = some x) (h : E sc mi (pc + 3) ls (aI x :: r) I L R K Q) : E sc mi pc ls st I L R K Q := by
  obtain ⟨f, rv, I1, L1, R1, K1, h1, h2⟩ := h
  exact ⟨f + 1, rv, I1, L1, R1, K1, run_str (hb ▸ hd) hm hco hp h1, h2⟩
theorem e_obj {idx a : Nat} {r : List AV} (hb : mBytes mi = b) (hd : decode b pc = .ok (.invokespecial idx, 3)) (ho : isObj (mOwn mi) idx = true) (hl : 1 ≤ mLvl mi ∧ catS r ≤ 8) (h : E sc mi (pc + 3) ls r I L R K Q) : E sc mi pc ls (aR (some a) :: r) I L R K Q := by
  obtain ⟨f, rv, I1, L1, R1, K1, h1, h2⟩ := h
  exact ⟨f + 1, rv, I1, L1, R1, K1, run_obj (hb ▸ hd) ho hl h1, h2⟩
/-! constants, locals, the stack -/
theorem e_iconst {c v : Int} (hb : mBytes mi = b) (hd : decode b pc = .ok (.iconst c, 1)) (hv : (Int32.ofInt c).toInt = v) (h : E sc mi (pc + 1) ls (aI v :: st) I L R K Q) : E sc mi pc ls st I L R K Q := e_st hb hd rfl rfl rfl (by rw [hv]; exact h)
theorem e_bipush {c v : Int} (hb : mBytes mi = b) (hd : decode b pc = .ok (.bipush c, 2)) (hv : (Int8.ofInt c).toInt32.toInt = v) (h : E sc mi (pc + 2) ls (aI v :: st) I L R K Q) : E sc mi pc ls st I L R K Q := e_st hb hd rfl rfl rfl (by rw [hv]; exact h)
theorem e_sipush {c v : Int} (hb : mBytes mi = b) (hd : decode b pc = .ok (.sipush c, 3)) (hv : (Int16.ofInt c).toInt32.toInt = v) (h : E sc mi (pc + 3) ls (aI v :: st) I L R K Q) : E sc mi pc ls st I L R K Q := e_st hb hd rfl rfl rfl (by rw [hv]; exact h)
theorem e_lconst {c : Fin 2} (hb : mBytes mi = b) (hd : decode b pc = .ok (.lconst c, 1)) (h : E sc mi (pc + 1) ls (aL (Int64.ofNat (c : Nat)) :: st) I L R K Q) : E sc mi pc ls st I L R K Q := e_st hb hd rfl rfl rfl h
theorem e_ldc {idx : Nat} {v : AV} (hb : mBytes mi = b) (hd : decode b pc = .ok (.ldc idx, 2)) (hs : lSite (mOwn mi) idx = some v) (hl : isLng v = false) (h : E sc mi (pc + 2) ls (v :: st) I L R K Q) : E sc mi pc ls st I L R K Q := by
  refine e_st (g := (pc + 2, ls, v :: st, I, L, R, K)) hb hd rfl rfl ?_ h
  simp only [stepL, hs, hl]; rfl
theorem e_ldcw {idx : Nat} {v : AV} (hb : mBytes mi = b) (hd : decode b pc = .ok (.ldc_w idx, 3)) (hs : lSite (mOwn mi) idx = some v) (hl : isLng v = false) (h : E sc mi (pc + 3) ls (v :: st) I L R K Q) : E sc mi pc ls st I L R K Q := by
  refine e_st (g := (pc + 3, ls, v :: st, I, L, R, K)) hb hd rfl rfl ?_ h
  simp only [stepL, hs, hl]; rfl
theorem e_ldc2 {idx : Nat} {x : Int64} (hb : mBytes mi = b) (hd : decode b pc = .ok (.ldc2_w idx, 3)) (hs : lSite (mOwn mi) idx = some (aL x)) (h : E sc mi (pc + 3) ls (aL x :: st) I L R K Q) : E sc mi pc ls st I L R K Q := by
  refine e_st (g := (pc + 3, ls, aL x :: st, I, L, R, K)) hb hd rfl rfl ?_ h
  simp only [stepL, hs]
theorem e_iload {k : Nat} {x : Int} (hb : mBytes mi = b) (hd : decode b pc = .ok (.iload k, 2)) (hs : aget ls k = some (aI x)) (h : E sc mi (pc + 2) ls (aI x :: st) I L R K Q) : E sc mi pc ls st I L R K Q := by
  refine e_st (g := (pc + 2, ls, aI x :: st, I, L, R, K)) hb hd rfl rfl ?_ h
  simp only [stepL, hs]
theorem e_iload_n {k : Fin 4} {x : Int} (hb : mBytes mi = b) (hd : decode b pc = .ok (.iload_n k, 1)) (hs : aget ls k = some (aI x)) (h : E sc mi (pc + 1) ls (aI x :: st) I L R K Q) : E sc mi pc ls st I L R K Q := by
  refine e_st (g := (pc + 1, ls, aI x :: st, I, L, R, K)) hb hd rfl rfl ?_ h
  simp only [stepL, hs]
theorem e_lload_n {k : Fin 4} {x : Int64} (hb : mBytes mi = b) (hd : decode b pc = .ok (.lload_n k, 1)) (hs : aget ls k = some (aL x)) (h : E sc mi (pc + 1) ls (aL x :: st) I L R K Q) : E sc mi pc ls st I L R K Q := by
  refine e_st (g := (pc + 1, ls, aL x :: st, I, L, R, K)) hb hd rfl rfl ?_ h
  simp only [stepL, hs]
theorem e_aload {k x : Nat} (hb : mBytes mi = b) (hd : decode b pc = .ok (.aload k, 2)) (hs : aget ls k = some (aR (some x))) (h : E sc mi (pc + 2) ls (aR (some x) :: st) I L R K Q) : E sc mi pc ls st I L R K Q := by
  refine e_st (g := (pc + 2, ls, aR (some x) :: st, I, L, R, K)) hb hd rfl rfl ?_ h
  simp only [stepL, hs]
theorem e_aload_n {k : Fin 4} {x : Nat} (hb : mBytes mi = b) (hd : decode b pc = .ok (.aload_n k, 1)) (hs : aget ls k = some (aR (some x))) (h : E sc mi (pc + 1) ls (aR (some x) :: st) I L R K Q) : E sc mi pc ls st I L R K Q := by
  refine e_st (g := (pc + 1, ls, aR (some x) :: st, I, L, R, K)) hb hd rfl rfl ?_ h
  simp only [stepL, hs]
theorem e_aload_nF {k : Fin 4} {x : Nat} (hb : mBytes mi = b) (hd : decode b pc = .ok (.aload_n k, 1)) (hs : aget ls k = some (aF x)) (h : E sc mi (pc + 1) ls (aF x :: st) I L R K Q) : E sc mi pc ls st I L R K Q := by
  refine e_st (g := (pc + 1, ls, aF x :: st, I, L, R, K)) hb hd rfl rfl ?_ h
  simp only [stepL, hs]
theorem e_istore {k : Nat} {x : Int} {l1 : ALs} (hb : mBytes mi = b) (hd : decode b pc = .ok (.istore k, 2)) (hs : aset ls k (aI x) = some l1) (h : E sc mi (pc + 2) l1 st I L R K Q) : E sc mi pc ls (aI x :: st) I L R K Q := by
  refine e_st (g := (pc + 2, l1, st, I, L, R, K)) hb hd rfl rfl ?_ h
  simp only [stepL, hs, Option.map_some]
theorem e_istore_n {k : Fin 4} {x : Int} {l1 : ALs} (hb : mBytes mi = b) (hd : decode b pc = .ok (.istore_n k, 1)) (hs : aset ls k (aI x) = some l1) (h : E sc mi (pc + 1) l1 st I L R K Q) : E sc mi pc ls (aI x :: st) I L R K Q := by
  refine e_st (g := (pc + 1, l1, st, I, L, R, K)) hb hd rfl rfl ?_ h
  simp only [stepL, hs, Option.map_some]
theorem e_lstore_n {k : Fin 4} {x : Int64} {l1 : ALs} (hb : mBytes mi = b) (hd : decode b pc = .ok (.lstore_n k, 1)) (hs : aset2 ls k (aL x) = some l1) (h : E sc mi (pc + 1) l1 st I L R K Q) : E sc mi pc ls (aL x :: st) I L R K Q := by
  refine e_st (g := (pc + 1, l1, st, I, L, R, K)) hb hd rfl rfl ?_ h
  simp only [stepL, hs, Option.map_some]
theorem e_astore {k x : Nat} {l1 : ALs} (hb : mBytes mi = b) (hd : decode b pc = .ok (.astore k, 2)) (hs : aset ls k (aR (some x)) = some l1) (h : E sc mi (pc + 2) l1 st I L R K Q) : E sc mi pc ls (aR (some x) :: st) I L R K Q := by
  refine e_st (g := (pc + 2, l1, st, I, L, R, K)) hb hd rfl rfl ?_ h
  simp only [stepL, hs, Option.map_some]
theorem e_astore_n {k : Fin 4} {x : Nat} {l1 : ALs} (hb : mBytes mi = b) (hd : decode b pc = .ok (.astore_n k, 1)) (hs : aset ls k (aR (some x)) = some l1) (h : E sc mi (pc + 1) l1 st I L R K Q) : E sc mi pc ls (aR (some x) :: st) I L R K Q := by
  refine e_st (g := (pc + 1, l1, st, I, L, R, K)) hb hd rfl rfl ?_ h
  simp only [stepL, hs, Option.map_some]
theorem w_add {x y : Int} (h : -2147483648 ≤ x + y ∧ x + y < 2147483648) : (Int32.ofInt x + Int32.ofInt y).toInt = x + y := by
  rw [← Int32.ofInt_add]; exact Int32.toInt_ofInt_of_le (by omega) (by omega)
theorem w_sub {x y : Int} (h : -2147483648 ≤ x - y ∧ x - y < 2147483648) : (Int32.ofInt x - Int32.ofInt y).toInt = x - y := by
  rw [← Int32.ofInt_sub]; exact Int32.toInt_ofInt_of_le (by omega) (by omega)
theorem w_mul {x y : Int} (h : -2147483648 ≤ x * y ∧ x * y < 2147483648) : (Int32.ofInt x * Int32.ofInt y).toInt = x * y := by
  rw [← Int32.ofInt_mul]; exact Int32.toInt_ofInt_of_le (by omega) (by omega)
theorem e_iinc {k : Nat} {c x : Int} {l1 : ALs} (hb : mBytes mi = b) (hd : decode b pc = .ok (.iinc k c, 3)) (hs : aget ls k = some (aI x)) (hr : -2147483648 ≤ x + c ∧ x + c < 2147483648) (h1 : aset ls k (aI (x + c)) = some l1) (h : E sc mi (pc + 3) l1 st I L R K Q) : E sc mi pc ls st I L R K Q := by
  refine e_st (g := (pc + 3, l1, st, I, L, R, K)) hb hd rfl rfl ?_ h
  simp only [stepL, hs, w_add hr, h1, Option.map_some]; rfl
theorem e_iincw {k : Nat} {c x : Int} {l1 : ALs} (hb : mBytes mi = b) (hd : decode b pc = .ok (.iinc k c, 6)) (hs : aget ls k = some (aI x)) (hr : -2147483648 ≤ x + c ∧ x + c < 2147483648) (h1 : aset ls k (aI (x + c)) = some l1) (h : E sc mi (pc + 6) l1 st I L R K Q) : E sc mi pc ls st I L R K Q := by
  refine e_st (g := (pc + 6, l1, st, I, L, R, K)) hb hd rfl rfl ?_ h
  simp only [stepL, hs, w_add hr, h1, Option.map_some]; rfl
theorem e_dup {v : AV} (hb : mBytes mi = b) (hd : decode b pc = .ok (.dup, 1)) (hl : isLng v = false) (h : E sc mi (pc + 1) ls (v :: v :: st) I L R K Q) : E sc mi pc ls (v :: st) I L R K Q := by
  refine e_st (g := (pc + 1, ls, v :: v :: st, I, L, R, K)) hb hd rfl rfl ?_ h
  simp only [stepL, hl]; rfl
theorem e_dup2 {v w : AV} (hb : mBytes mi = b) (hd : decode b pc = .ok (.dup2, 1)) (hl : isLng v = false ∧ isLng w = false) (h : E sc mi (pc + 1) ls (v :: w :: v :: w :: st) I L R K Q) : E sc mi pc ls (v :: w :: st) I L R K Q := by
  refine e_st (g := (pc + 1, ls, v :: w :: v :: w :: st, I, L, R, K)) hb hd rfl rfl ?_ h
  simp only [stepL, hl.1, hl.2]; rfl
theorem e_pop {v : AV} (hb : mBytes mi = b) (hd : decode b pc = .ok (.pop, 1)) (hl : isLng v = false) (h : E sc mi (pc + 1) ls st I L R K Q) : E sc mi pc ls (v :: st) I L R K Q := by
  refine e_st (g := (pc + 1, ls, st, I, L, R, K)) hb hd rfl rfl ?_ h
  simp only [stepL, hl]; rfl
end
