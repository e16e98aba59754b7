/-! runs put together; more fuel does no harm -/
def isStep (i : Instr) : Bool := match i with
  | .ireturn | .areturn | .return_ | .invokestatic _ | .invokevirtual _ | .invokespecial _ => false
  | _ => true
section
variable {sc : Nat × (Nat → Int)} {f mi pc n : Nat} {ls : ALs} {st : List AV} {I : IH} {L : LH} {R : RH} {K : KH} {res : ARes} {i : Instr}
theorem run_step (hd : decode (mBytes mi) pc = .ok (i, n)) (hn : insLen i n = true) (hi : isStep i = true) {g : ACfg} (hs : stepL sc mi i n pc ls st I L R K = some g) (h : amRun sc f mi g.1 g.2.1 g.2.2.1 g.2.2.2.1 g.2.2.2.2.1 g.2.2.2.2.2.1 g.2.2.2.2.2.2 = some res) : amRun sc (f + 1) mi pc ls st I L R K = some res := by
  unfold amRun
  split
  case h_1 e he => rw [hd] at he; cases he
  case h_2 i1 n1 hd1 =>
    rw [hd] at hd1
    obtain ⟨rfl, rfl⟩ : i = i1 ∧ n = n1 := by cases hd1; exact ⟨rfl, rfl⟩
    rw [if_pos hn]
    split
    case h_1 => cases hi
    case h_2 => cases hi
    case h_3 => cases hi
    case h_4 => cases hi
    case h_5 => cases hi
    case h_6 => cases hi
    case h_7 => rw [hs]; exact h
theorem run_ireturn (hd : decode (mBytes mi) pc = .ok (.ireturn, 1)) {x : Int} (hr : retI mi x = true) : amRun sc (f + 1) mi pc ls [aI x] I L R K = some (some (aI x), I, L, R, K) := by
  unfold amRun
  rw [hd]
  show (if retI mi x = true then some (some (aI x), I, L, R, K) else none) = _
  rw [if_pos hr]
theorem run_areturn (hd : decode (mBytes mi) pc = .ok (.areturn, 1)) {a : Nat} (hr : retA mi = true) : amRun sc (f + 1) mi pc ls [aR (some a)] I L R K = some (some (aR (some a)), I, L, R, K) := by
  unfold amRun
  rw [hd]
  show (if retA mi = true then some (some (aR (some a)), I, L, R, K) else none) = _
  rw [if_pos hr]
theorem run_areturnF (hd : decode (mBytes mi) pc = .ok (.areturn, 1)) {a : Nat} (hr : retA mi = true) : amRun sc (f + 1) mi pc ls [aF a] I L R K = some (some (aF a), I, L, R, K) := by
  unfold amRun
  rw [hd]
  show (if retA mi = true then some (some (aF a), I, L, R, K) else none) = _
  rw [if_pos hr]
theorem run_return (hd : decode (mBytes mi) pc = .ok (.return_, 1)) (hr : mRet mi = none) : amRun sc (f + 1) mi pc ls [] I L R K = some (none, I, L, R, K) := by
  unfold amRun
  rw [hd]
  show (if mRet mi = none ∧ ([] : List AV) = [] then some (none, I, L, R, K) else none) = _
  rw [if_pos ⟨hr, rfl⟩]
theorem run_copy {idx : Nat} (hd : decode (mBytes mi) pc = .ok (.invokestatic idx, 3)) (hc : isCopy (mOwn mi) idx = true) {k dp sp : Int} {a b : Nat} {r : List AV} (hcc : K.1 a = 100 ∧ K.1 b = 100 ∧ 0 ≤ k ∧ 0 ≤ sp ∧ 0 ≤ dp ∧ sp + k ≤ (K.2.1 a : Nat) ∧ dp + k ≤ (K.2.1 b : Nat) ∧ catS r ≤ 8 ∧ 1 ≤ mLvl mi) (h : amRun sc f mi (pc + 3) ls r (copyI I a sp.toNat b dp.toNat k.toNat) L R K = some res) : amRun sc (f + 1) mi pc ls (aI k :: aI dp :: aR (some b) :: aI sp :: aR (some a) :: r) I L R K = some res := by
  unfold amRun
  rw [hd]
  show (if isCopy (mOwn mi) idx = true then (if K.1 a = 100 ∧ K.1 b = 100 ∧ 0 ≤ k ∧ 0 ≤ sp ∧ 0 ≤ dp ∧ sp + k ≤ (K.2.1 a : Nat) ∧ dp + k ≤ (K.2.1 b : Nat) ∧ catS r ≤ 8 ∧ 1 ≤ mLvl mi then amRun sc f mi (pc + 3) ls r (copyI I a sp.toNat b dp.toNat k.toNat) L R K else none) else _) = _
  rw [if_pos hc, if_pos hcc]
  exact h
/-- the call's own instruction -/
def invI (ks idx : Nat) : Instr := match ks with
  | 0 => .invokestatic idx
  | 1 => .invokevirtual idx
  | _ => .invokespecial idx
/-- neither Object.<init> nor arraycopy, nor a method that AM answers itself -/
def plainCall (mi ks idx cmi : Nat) : Bool := match ks with
  | 0 => !isCopy (mOwn mi) idx && !isMM cmi
  | 1 => !isStr cmi
  | 2 => !isObj (mOwn mi) idx
  | _ => false
theorem run_call {ks idx cmi : Nat} {as r : List AV} (hd : decode (mBytes mi) pc = .ok (invI ks idx, 3)) (hp : plainCall mi ks idx cmi = true) (hco : callOf mi idx ks st K = some (cmi, as, r)) {rv : Option AV} {I1 : IH} {L1 : LH} {R1 : RH} {K1 : KH} (h1 : amRun sc f cmi 0 (padL (mMaxL cmi) (mkL as)) [] I L R K = some (rv, I1, L1, R1, K1)) (h : amRun sc f mi (pc + 3) ls (rv.toList ++ r) I1 L1 R1 K1 = some res) : amRun sc (f + 1) mi pc ls st I L R K = some res := by
  unfold amRun
  rw [hd]
  match ks, hp with
  | 0, hp =>
    have hp : isCopy (mOwn mi) idx = false ∧ isMM cmi = false := by simpa [plainCall] using hp
    show (if isCopy (mOwn mi) idx = true then _ else match callOf mi idx 0 st K with
          | some (cmi, as, r) => if isMM cmi = true then (match as with
              | [.inl x, .inl y] => amRun sc f mi (pc + 3) ls (aI (minMax cmi x y) :: r) I L R K
              | _ => none)
            else match amRun sc f cmi 0 (padL (mMaxL cmi) (mkL as)) [] I L R K with
            | some (rv, I1, L1, R1, K1) => amRun sc f mi (pc + 3) ls (rv.toList ++ r) I1 L1 R1 K1
            | none => none
          | none => none) = _
    rw [if_neg (by rw [hp.1]; exact Bool.false_ne_true), hco]
    show (if isMM cmi = true then _ else match amRun sc f cmi 0 (padL (mMaxL cmi) (mkL as)) [] I L R K with
            | some (rv, I1, L1, R1, K1) => amRun sc f mi (pc + 3) ls (rv.toList ++ r) I1 L1 R1 K1
            | none => none) = _
    rw [if_neg (by rw [hp.2]; exact Bool.false_ne_true), h1]
    exact h
  | 1, hp =>
    have hp : isStr cmi = false := by simpa [plainCall] using hp
    show (match callOf mi idx 1 st K with
        | some (cmi, as, r) => if isStr cmi = true then (match amPrim cmi as with
            | some x => amRun sc f mi (pc + 3) ls (aI x :: r) I L R K
            | none => none)
          else match amRun sc f cmi 0 (padL (mMaxL cmi) (mkL as)) [] I L R K with
            | some (rv, I1, L1, R1, K1) => amRun sc f mi (pc + 3) ls (rv.toList ++ r) I1 L1 R1 K1
            | none => none
        | none => none) = _
    rw [hco]
    show (if isStr cmi = true then _ else match amRun sc f cmi 0 (padL (mMaxL cmi) (mkL as)) [] I L R K with
            | some (rv, I1, L1, R1, K1) => amRun sc f mi (pc + 3) ls (rv.toList ++ r) I1 L1 R1 K1
            | none => none) = _
    rw [if_neg (by rw [hp]; exact Bool.false_ne_true), h1]
    exact h
  | 2, hp =>
    have hp : isObj (mOwn mi) idx = false := by simpa [plainCall] using hp
    show (if isObj (mOwn mi) idx = true then _ else match callOf mi idx 2 st K with
          | some (cmi, as, r) => match amRun sc f cmi 0 (padL (mMaxL cmi) (mkL as)) [] I L R K with
            | some (rv, I1, L1, R1, K1) => amRun sc f mi (pc + 3) ls (rv.toList ++ r) I1 L1 R1 K1
            | none => none
          | none => none) = _
    rw [if_neg (by rw [hp]; exact Bool.false_ne_true), hco]
    show (match amRun sc f cmi 0 (padL (mMaxL cmi) (mkL as)) [] I L R K with
            | some (rv, I1, L1, R1, K1) => amRun sc f mi (pc + 3) ls (rv.toList ++ r) I1 L1 R1 K1
            | none => none) = _
    rw [h1]
    exact h
  | k + 3, hp => cases hp
theorem run_mm {idx cmi : Nat} {x y : Int} {r : List AV} (hd : decode (mBytes mi) pc = .ok (.invokestatic idx, 3)) (hc : isCopy (mOwn mi) idx = false) (hm : isMM cmi = true) (hco : callOf mi idx 0 st K = some (cmi, [aI x, aI y], r)) (h : amRun sc f mi (pc + 3) ls (aI (minMax cmi x y) :: r) I L R K = some res) : amRun sc (f + 1) mi pc ls st I L R K = some res := by
  unfold amRun
  rw [hd]
  show (if isCopy (mOwn mi) idx = true then _ else match callOf mi idx 0 st K with
          | some (cmi, as, r) => if isMM cmi = true then (match as with
              | [.inl x, .inl y] => amRun sc f mi (pc + 3) ls (aI (minMax cmi x y) :: r) I L R K
              | _ => none)
            else match amRun sc f cmi 0 (padL (mMaxL cmi) (mkL as)) [] I L R K with
            | some (rv, I1, L1, R1, K1) => amRun sc f mi (pc + 3) ls (rv.toList ++ r) I1 L1 R1 K1
            | none => none
          | none => none) = _
  rw [if_neg (by rw [hc]; exact Bool.false_ne_true), hco]
  show (if isMM cmi = true then amRun sc f mi (pc + 3) ls (aI (minMax cmi x y) :: r) I L R K else _) = _
  rw [if_pos hm]
  exact h
theorem run_str {idx cmi : Nat} {as r : List AV} {x : Int} (hd : decode (mBytes mi) pc = .ok (.invokevirtual idx, 3)) (hm : isStr cmi = true) (hco : callOf mi idx 1 st K = some (cmi, as, r)) (hp : amPrim cmi as = some x) (h : amRun sc f mi (pc + 3) ls (aI x :: r) I L R K = some res) : amRun sc (f + 1) mi pc ls st I L R K = some res := by
  unfold amRun
  rw [hd]
  show (match callOf mi idx 1 st K with
        | some (cmi, as, r) => if isStr cmi = true then (match amPrim cmi as with
            | some x => amRun sc f mi (pc + 3) ls (aI x :: r) I L R K
            | none => none)
          else match amRun sc f cmi 0 (padL (mMaxL cmi) (mkL as)) [] I L R K with
            | some (rv, I1, L1, R1, K1) => amRun sc f mi (pc + 3) ls (rv.toList ++ r) I1 L1 R1 K1
            | none => none
        | none => none) = _
  rw [hco]
  show (if isStr cmi = true then (match amPrim cmi as with
            | some x => amRun sc f mi (pc + 3) ls (aI x :: r) I L R K
            | none => none) else _) = _
  rw [if_pos hm, hp]
  exact h
theorem run_obj {idx a : Nat} {r : List AV} (hd : decode (mBytes mi) pc = .ok (.invokespecial idx, 3)) (ho : isObj (mOwn mi) idx = true) (hl : 1 ≤ mLvl mi ∧ catS r ≤ 8) (h : amRun sc f mi (pc + 3) ls r I L R K = some res) : amRun sc (f + 1) mi pc ls (aR (some a) :: r) I L R K = some res := by
  unfold amRun
  rw [hd]
  show (if isObj (mOwn mi) idx = true then (if 1 ≤ mLvl mi ∧ catS r ≤ 8 then amRun sc f mi (pc + 3) ls r I L R K else none) else _) = _
  rw [if_pos ho, if_pos hl]
  exact h
end
theorem cTab_no : ∀ e ∈ cTab, e.1 ≠ copyKey ∧ ¬ e.1 ∈ oTab := by decide +kernel
theorem cSite_no {o idx : Nat} {x : Nat × Nat × Bool} (h : cSite o idx = some x) : isCopy o idx = false ∧ isObj o idx = false := by
  unfold cSite at h
  split at h
  case isFalse => cases h
  case isTrue hlt =>
    have h1 := cTab_no _ (al_mem h)
    refine ⟨?_, ?_⟩
    · unfold isCopy
      rw [Bool.and_eq_false_iff]
      exact Or.inr (by simpa using h1.1)
    · unfold isObj
      rw [Bool.and_eq_false_iff]
      exact Or.inr (by simpa using h1.2)
theorem callOf_site {mi idx ks : Nat} {st : List AV} {K : KH} {c : Nat × List AV × List AV} (h : callOf mi idx ks st K = some c) : isCopy (mOwn mi) idx = false ∧ isObj (mOwn mi) idx = false := by
  unfold callOf at h
  split at h
  case h_2 => cases h
  case h_1 hs => exact cSite_no hs
set_option maxHeartbeats 4000000 in
theorem run_mono {sc : Nat × (Nat → Int)} : ∀ (f mi pc : Nat) (ls : ALs) (st : List AV) (I : IH) (L : LH) (R : RH) (K : KH) (res : ARes), amRun sc f mi pc ls st I L R K = some res → amRun sc (f + 1) mi pc ls st I L R K = some res := by
  intro f
  induction f with
  | zero => intro mi pc ls st I L R K res h; cases h
  | succ f ih =>
    intro mi pc ls st I L R K res h
    have h0 := h
    obtain ⟨i, n, hd, hn, hc⟩ := run_inv h
    rcases hc with ⟨x, rfl, rfl, hx, rfl⟩ | ⟨a, rfl, rfl, hx, rfl⟩ | ⟨j, rfl, rfl, hx, rfl⟩ | ⟨rfl, hx, rfl, rfl⟩ | ⟨idx, k, dp, b, sp, a, r, rfl, hcp, rfl, hcc, hrun⟩ | ⟨idx, cmi, x, y, r, rfl, hco, hmm, hrun⟩ | ⟨idx, ks, cmi, as, r, rv2, I2, L2, R2, K2, hks, hco, hmm, hns, hrun1, hrun⟩ | ⟨idx, cmi, as, r, x, rfl, hco, hstr, hp, hrun⟩ | ⟨idx, a, r, rfl, hob, rfl, hlv, hrun⟩ | ⟨g, hs, hrun⟩
    · obtain rfl : n = 1 := by simpa [insLen] using hn
      exact run_ireturn hd hx
    · obtain rfl : n = 1 := by simpa [insLen] using hn
      exact run_areturn hd hx
    · obtain rfl : n = 1 := by simpa [insLen] using hn
      exact run_areturnF hd hx
    · obtain rfl : n = 1 := by simpa [insLen] using hn
      exact run_return hd hx
    · obtain rfl : n = 3 := by simpa [insLen] using hn
      exact run_copy hd hcp hcc (ih _ _ _ _ _ _ _ _ _ hrun)
    · obtain rfl : n = 3 := by simpa [insLen] using hn
      exact run_mm hd (callOf_site hco).1 hmm hco (ih _ _ _ _ _ _ _ _ _ hrun)
    · obtain rfl : n = 3 := by rcases hks with ⟨-, rfl⟩ | ⟨-, rfl⟩ | ⟨-, rfl⟩ <;> simpa [insLen] using hn
      have hd2 : decode (mBytes mi) pc = .ok (invI ks idx, 3) := by rcases hks with ⟨rfl, rfl⟩ | ⟨rfl, rfl⟩ | ⟨rfl, rfl⟩ <;> exact hd
      refine run_call hd2 ?_ hco (ih _ _ _ _ _ _ _ _ _ hrun1) (ih _ _ _ _ _ _ _ _ _ hrun)
      rcases hks with ⟨rfl, rfl⟩ | ⟨rfl, rfl⟩ | ⟨rfl, rfl⟩
      · simp [plainCall, hmm, (callOf_site hco).1]
      · simp [plainCall, hns rfl]
      · simp [plainCall, (callOf_site hco).2]
    · obtain rfl : n = 3 := by simpa [insLen] using hn
      exact run_str hd hstr hco hp (ih _ _ _ _ _ _ _ _ _ hrun)
    · obtain rfl : n = 3 := by simpa [insLen] using hn
      exact run_obj hd hob hlv (ih _ _ _ _ _ _ _ _ _ hrun)
    · have hi : isStep i = true := by
        cases i <;> first | rfl | exact absurd (show (none : Option ACfg) = some g from hs) (fun q => by cases q)
      exact run_step hd hn hi hs (ih _ _ _ _ _ _ _ _ _ hrun)
