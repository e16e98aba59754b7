/-! kinds of cells stay -/
def KP (K : KH) (g : ACfg) : Prop := K.2.2.1 ≤ g.2.2.2.2.2.2.2.2.1 ∧ ∀ a, a < K.2.2.1 → g.2.2.2.2.2.2.1 a = K.1 a
theorem kp_al {K : KH} {kd n pc : Nat} {ls : ALs} {st : List AV} {I : IH} {L : LH} {R : RH} : KP K (pc, ls, st, I, L, R, amAlloc K kd n) := by
  refine ⟨Nat.le_succ _, fun a ha => ?_⟩
  show up1 K.1 K.2.2.1 kd a = K.1 a
  unfold up1
  rw [if_neg (by omega)]
theorem kp_al2 {K : KH} {n k pc : Nat} {ls : ALs} {st : List AV} {I : IH} {L : LH} {R : RH} : KP K (pc, ls, st, I, L, R, amAlloc2 K n k) := by
  refine ⟨by show K.2.2.1 ≤ K.2.2.1 + 1 + n; omega, fun a ha => ?_⟩
  show (if a = K.2.2.1 then 105 else if K.2.2.1 < a ∧ a ≤ K.2.2.1 + n then 100 else K.1 a) = K.1 a
  rw [if_neg (by omega), if_neg (by omega)]
section
variable {sc : Nat × (Nat → Int)} {mi n pc : Nat} {ls : ALs} {st : List AV} {I : IH} {L : LH} {R : RH} {K : KH} {g : ACfg}
set_option maxHeartbeats 4000000 in
theorem stepL_K {i : Instr} (h : stepL sc mi i n pc ls st I L R K = some g) : KP K g := by
  have mp : ∀ {α : Type} {o : Option α} {F : α → ACfg}, (∀ x, KP K (F x)) → o.map F = some g → KP K g := fun hF e => by
    obtain ⟨x, -, rfl⟩ := Option.map_eq_some_iff.mp e
    exact hF x
  have sm : ∀ {c : ACfg}, KP K c → some c = some g → KP K g := fun hc e => by cases e; exact hc
  have id : ∀ (pc : Nat) (ls : ALs) (st : List AV) (I : IH) (L : LH) (R : RH), KP K (pc, ls, st, I, L, R, K) := fun _ _ _ _ _ _ => ⟨Nat.le_refl _, fun _ _ => rfl⟩
  cases i
  all_goals first
    | exact absurd (show (none : Option ACfg) = some g from h) (fun q => by cases q)
    | exact sm (id _ _ _ _ _ _) h
    | exact mp (fun _ => id _ _ _ _ _ _) h
    | (unfold stepL at h; dsimp only at h; (try unfold stB at h); (try unfold stQ at h); (repeat' split at h) <;> first | exact sm (id _ _ _ _ _ _) h | exact mp (fun _ => id _ _ _ _ _ _) h | exact sm kp_al h | exact sm kp_al2 h | (cases h; done))
end
set_option maxHeartbeats 4000000 in
theorem run_K {sc : Nat × (Nat → Int)} : ∀ (f mi pc : Nat) (ls : ALs) (st : List AV) (I : IH) (L : LH) (R : RH) (K : KH) (rv : Option AV) (I1 : IH) (L1 : LH) (R1 : RH) (K1 : KH), amRun sc f mi pc ls st I L R K = some (rv, I1, L1, R1, K1) → K.2.2.1 ≤ K1.2.2.1 ∧ ∀ a, a < K.2.2.1 → K1.1 a = K.1 a := by
  intro f
  induction f with
  | zero => intro mi pc ls st I L R K rv I1 L1 R1 K1 h; cases h
  | succ f ih =>
    intro mi pc ls st I L R K rv I1 L1 R1 K1 h
    obtain ⟨i, n, hd, hn, hc⟩ := run_inv h
    rcases hc with ⟨x, -, rfl, -, hr⟩ | ⟨a, -, rfl, -, hr⟩ | ⟨j, -, rfl, -, hr⟩ | ⟨-, -, -, hr⟩ | ⟨idx, k, dp, b, sp, a, r, -, -, rfl, hcc, hrun⟩ | ⟨idx, cmi, x, y, r, -, hco, -, hrun⟩ | ⟨idx, ks, cmi, as, r, rv2, I2, L2, R2, K2, -, hco, -, -, hrun1, hrun⟩ | ⟨idx, cmi, as, r, x, -, hco, -, hp, hrun⟩ | ⟨idx, a, r, -, -, rfl, -, hrun⟩ | ⟨g, hs, hrun⟩
    · cases hr; exact ⟨Nat.le_refl _, fun _ _ => rfl⟩
    · cases hr; exact ⟨Nat.le_refl _, fun _ _ => rfl⟩
    · cases hr; exact ⟨Nat.le_refl _, fun _ _ => rfl⟩
    · cases hr; exact ⟨Nat.le_refl _, fun _ _ => rfl⟩
    · exact ih _ _ _ _ _ _ _ _ _ _ _ _ _ hrun
    · exact ih _ _ _ _ _ _ _ _ _ _ _ _ _ hrun
    · obtain ⟨h1, h2⟩ := ih _ _ _ _ _ _ _ _ _ _ _ _ _ hrun1
      obtain ⟨g1, g2⟩ := ih _ _ _ _ _ _ _ _ _ _ _ _ _ hrun
      exact ⟨Nat.le_trans h1 g1, fun a ha => (g2 a (Nat.lt_of_lt_of_le ha h1)).trans (h2 a ha)⟩
    · exact ih _ _ _ _ _ _ _ _ _ _ _ _ _ hrun
    · exact ih _ _ _ _ _ _ _ _ _ _ _ _ _ hrun
    · obtain ⟨h1, h2⟩ := stepL_K hs
      obtain ⟨g1, g2⟩ := ih _ _ _ _ _ _ _ _ _ _ _ _ _ hrun
      exact ⟨Nat.le_trans h1 g1, fun a ha => (g2 a (Nat.lt_of_lt_of_le ha h1)).trans (h2 a ha)⟩
/-! runs that don't look at the script: for evaluation -/
def isScr (i : Instr) (st : List AV) : Bool := match i, st with
  | .arraylength, .inr (.inr (.inr _)) :: _ => true
  | _, _ => false
def stepG (mi : Nat) (i : Instr) (n pc : Nat) (ls : ALs) (st : List AV) (I : IH) (L : LH) (R : RH) (K : KH) : Option ACfg := if isScr i st = true then none else stepL (0, fun _ => 0) mi i n pc ls st I L R K
theorem stepG_ok {sc : Nat × (Nat → Int)} {mi n pc : Nat} {i : Instr} {ls : ALs} {st : List AV} {I : IH} {L : LH} {R : RH} {K : KH} {g : ACfg} (h : stepG mi i n pc ls st I L R K = some g) : stepL sc mi i n pc ls st I L R K = some g := by
  cases i
  case arraylength =>
    match st, h with
    | .inr (.inr (.inr k)) :: r, h => exact absurd (show (none : Option ACfg) = some g from h) (fun q => by cases q)
    | [], h => exact h
    | .inl x :: r, h => exact h
    | .inr (.inl none) :: r, h => exact h
    | .inr (.inl (some a)) :: r, h => exact h
    | .inr (.inr (.inl y)) :: r, h => exact h
  case iaload =>
    match st, h with
    | .inl i :: .inr (.inr (.inr 0)) :: r, h =>
      have h : (if inRow i 0 = true then some (pc + 1, ls, aI 0 :: r, I, L, R, K) else none) = some g := h
      have hn : ¬ inRow i 0 = true := fun q => by
        unfold inRow at q
        rw [Bool.and_eq_true, decide_eq_true_eq, decide_eq_true_eq] at q
        omega
      rw [if_neg hn] at h
      cases h
    | .inl i :: .inr (.inr (.inr (k + 1))) :: r, h => exact h
    | .inl i :: .inr (.inr (.inl y)) :: r, h => exact h
    | .inl i :: .inr (.inl none) :: r, h => exact h
    | .inl i :: .inr (.inl (some a)) :: r, h => exact h
    | .inl i :: .inl x :: r, h => exact h
    | [.inl i], h => exact h
    | .inr x :: r, h => exact h
    | [], h => exact h
  all_goals exact h
def amRun0 : Nat → Nat → Nat → ALs → List AV → IH → LH → RH → KH → Option ARes
  | 0, _, _, _, _, _, _, _, _ => none
  | f + 1, mi, pc, ls, st, I, L, R, K => match decode (mBytes mi) pc with
    | .error _ => none
    | .ok (i, n) => if insLen i n = true then (match i with
      | .ireturn => match st with
        | [.inl x] => if retI mi x = true then some (some (aI x), I, L, R, K) else none
        | _ => none
      | .areturn => match st with
        | [.inr (.inl (some a))] => if retA mi = true then some (some (aR (some a)), I, L, R, K) else none
        | [.inr (.inr (.inr j))] => if retA mi = true then some (some (aF j), I, L, R, K) else none
        | _ => none
      | .return_ => if mRet mi = none ∧ st = [] then some (none, I, L, R, K) else none
      | .invokestatic idx => if isCopy (mOwn mi) idx = true then (match st with
          | .inl k :: .inl dp :: .inr (.inl (some b)) :: .inl sp :: .inr (.inl (some a)) :: r =>
            if K.1 a = 100 ∧ K.1 b = 100 ∧ 0 ≤ k ∧ 0 ≤ sp ∧ 0 ≤ dp ∧ sp + k ≤ (K.2.1 a : Nat) ∧ dp + k ≤ (K.2.1 b : Nat) ∧ catS r ≤ 8 ∧ 1 ≤ mLvl mi then amRun0 f mi (pc + 3) ls r (copyI I a sp.toNat b dp.toNat k.toNat) L R K else none
          | _ => none)
        else match callOf mi idx 0 st K with
          | some (cmi, as, r) => if isMM cmi = true then (match as with
              | [.inl x, .inl y] => amRun0 f mi (pc + 3) ls (aI (minMax cmi x y) :: r) I L R K
              | _ => none)
            else match amRun0 f cmi 0 (padL (mMaxL cmi) (mkL as)) [] I L R K with
            | some (rv, I1, L1, R1, K1) => amRun0 f mi (pc + 3) ls (rv.toList ++ r) I1 L1 R1 K1
            | none => none
          | none => none
      | .invokevirtual idx => match callOf mi idx 1 st K with
        | some (cmi, as, r) => if isStr cmi = true then (match amPrim cmi as with
            | some x => amRun0 f mi (pc + 3) ls (aI x :: r) I L R K
            | none => none)
          else match amRun0 f cmi 0 (padL (mMaxL cmi) (mkL as)) [] I L R K with
            | some (rv, I1, L1, R1, K1) => amRun0 f mi (pc + 3) ls (rv.toList ++ r) I1 L1 R1 K1
            | none => none
        | none => none
      | .invokespecial idx => if isObj (mOwn mi) idx = true then (match st with
          | .inr (.inl (some _)) :: r => if 1 ≤ mLvl mi ∧ catS r ≤ 8 then amRun0 f mi (pc + 3) ls r I L R K else none
          | _ => none)
        else match callOf mi idx 2 st K with
          | some (cmi, as, r) => match amRun0 f cmi 0 (padL (mMaxL cmi) (mkL as)) [] I L R K with
            | some (rv, I1, L1, R1, K1) => amRun0 f mi (pc + 3) ls (rv.toList ++ r) I1 L1 R1 K1
            | none => none
          | none => none
      | i => match stepG mi i n pc ls st I L R K with
        | some (pc1, ls1, st1, I1, L1, R1, K1) => amRun0 f mi pc1 ls1 st1 I1 L1 R1 K1
        | none => none) else none
section
variable {f mi pc : Nat} {ls : ALs} {st : List AV} {I : IH} {L : LH} {R : RH} {K : KH} {res : ARes}
set_option maxHeartbeats 4000000 in
theorem run0_inv (h : amRun0 (f + 1) mi pc ls st I L R K = some res) : ∃ (i : Instr) (n : Nat), decode (mBytes mi) pc = .ok (i, n) ∧ insLen i n = true ∧ (
    (∃ x, i = .ireturn ∧ st = [aI x] ∧ retI mi x = true ∧ res = (some (aI x), I, L, R, K)) ∨
    (∃ a, i = .areturn ∧ st = [aR (some a)] ∧ retA mi = true ∧ res = (some (aR (some a)), I, L, R, K)) ∨
    (∃ j, i = .areturn ∧ st = [aF j] ∧ retA mi = true ∧ res = (some (aF j), I, L, R, K)) ∨
    (i = .return_ ∧ mRet mi = none ∧ st = [] ∧ res = (none, I, L, R, K)) ∨
    (∃ idx k dp b sp a r, i = .invokestatic idx ∧ isCopy (mOwn mi) idx = true ∧ st = aI k :: aI dp :: aR (some b) :: aI sp :: aR (some a) :: r ∧ (K.1 a = 100 ∧ K.1 b = 100 ∧ 0 ≤ k ∧ 0 ≤ sp ∧ 0 ≤ dp ∧ sp + k ≤ (K.2.1 a : Nat) ∧ dp + k ≤ (K.2.1 b : Nat) ∧ catS r ≤ 8 ∧ 1 ≤ mLvl mi) ∧ amRun0 f mi (pc + 3) ls r (copyI I a sp.toNat b dp.toNat k.toNat) L R K = some res) ∨
    (∃ idx cmi x y r, i = .invokestatic idx ∧ callOf mi idx 0 st K = some (cmi, [aI x, aI y], r) ∧ isMM cmi = true ∧ amRun0 f mi (pc + 3) ls (aI (minMax cmi x y) :: r) I L R K = some res) ∨
    (∃ idx ks cmi as r rv I1 L1 R1 K1, ((ks = 0 ∧ i = .invokestatic idx) ∨ (ks = 1 ∧ i = .invokevirtual idx) ∨ (ks = 2 ∧ i = .invokespecial idx)) ∧ callOf mi idx ks st K = some (cmi, as, r) ∧ isMM cmi = false ∧ (ks = 1 → isStr cmi = false) ∧ amRun0 f cmi 0 (padL (mMaxL cmi) (mkL as)) [] I L R K = some (rv, I1, L1, R1, K1) ∧ amRun0 f mi (pc + 3) ls (rv.toList ++ r) I1 L1 R1 K1 = some res) ∨
    (∃ idx cmi as r x, i = .invokevirtual idx ∧ callOf mi idx 1 st K = some (cmi, as, r) ∧ isStr cmi = true ∧ amPrim cmi as = some x ∧ amRun0 f mi (pc + 3) ls (aI x :: r) I L R K = some res) ∨
    (∃ idx a r, i = .invokespecial idx ∧ isObj (mOwn mi) idx = true ∧ st = aR (some a) :: r ∧ (1 ≤ mLvl mi ∧ catS r ≤ 8) ∧ amRun0 f mi (pc + 3) ls r I L R K = some res) ∨
    (∃ g, stepG mi i n pc ls st I L R K = some g ∧ amRun0 f mi g.1 g.2.1 g.2.2.1 g.2.2.2.1 g.2.2.2.2.1 g.2.2.2.2.2.1 g.2.2.2.2.2.2 = some res)) := by
  have callOf_mm : ∀ {idx ks cmi : Nat} {as r : List AV}, ks ≠ 0 → callOf mi idx ks st K = some (cmi, as, r) → isMM cmi = false := by
    intro idx ks cmi as r hks hc
    unfold callOf at hc
    split at hc
    case h_2 => cases hc
    case h_1 =>
      split at hc
      case isFalse => cases hc
      case isTrue hcc =>
        cases hc
        rcases hcc.2.2.2.2.2.1 with h1 | h1
        · exact absurd h1 hks
        · exact h1
  unfold amRun0 at h
  split at h
  case h_1 => cases h
  case h_2 i n hd =>
    refine ⟨i, n, hd, ?_⟩
    split at h
    case isFalse => cases h
    case isTrue hn =>
      refine ⟨hn, ?_⟩
      split at h
      case h_1 =>
        split at h
        case h_2 => cases h
        case h_1 x =>
          split at h
          case isFalse => cases h
          case isTrue hr =>
            cases h
            exact Or.inl ⟨x, rfl, rfl, hr, rfl⟩
      case h_2 =>
        split at h
        case h_3 => cases h
        case h_1 a =>
          split at h
          case isFalse => cases h
          case isTrue hr =>
            cases h
            exact Or.inr (Or.inl ⟨a, rfl, rfl, hr, rfl⟩)
        case h_2 j =>
          split at h
          case isFalse => cases h
          case isTrue hr =>
            cases h
            exact Or.inr (Or.inr (Or.inl ⟨j, rfl, rfl, hr, rfl⟩))
      case h_3 =>
        split at h
        case isFalse => cases h
        case isTrue hr =>
          cases h
          exact Or.inr (Or.inr (Or.inr (Or.inl ⟨rfl, hr.1, hr.2, rfl⟩)))
      case h_4 idx =>
        split at h
        case isTrue hcp =>
          split at h
          case h_2 => cases h
          case h_1 k dp b sp a r =>
            split at h
            case isFalse => cases h
            case isTrue hc => exact Or.inr (Or.inr (Or.inr (Or.inr (Or.inl ⟨idx, k, dp, b, sp, a, r, rfl, hcp, rfl, hc, h⟩))))
        case isFalse =>
          split at h
          case h_2 => cases h
          case h_1 cmi as r hc =>
            split at h
            case isTrue hm =>
              split at h
              case h_2 => cases h
              case h_1 x y => exact Or.inr (Or.inr (Or.inr (Or.inr (Or.inr (Or.inl ⟨idx, cmi, x, y, r, rfl, hc, hm, h⟩)))))
            case isFalse hm =>
              split at h
              case h_2 => cases h
              case h_1 rv I1 L1 R1 K1 hrun => exact Or.inr (Or.inr (Or.inr (Or.inr (Or.inr (Or.inr (Or.inl ⟨idx, 0, cmi, as, r, rv, I1, L1, R1, K1, Or.inl ⟨rfl, rfl⟩, hc, Bool.eq_false_iff.mpr hm, (fun q => absurd q (by decide)), hrun, h⟩))))))
      case h_5 idx =>
        split at h
        case h_2 => cases h
        case h_1 cmi as r hc =>
          split at h
          case isTrue hm =>
            split at h
            case h_2 => cases h
            case h_1 x hp => exact Or.inr (Or.inr (Or.inr (Or.inr (Or.inr (Or.inr (Or.inr (Or.inl ⟨idx, cmi, as, r, x, rfl, hc, hm, hp, h⟩)))))))
          case isFalse hm =>
            split at h
            case h_2 => cases h
            case h_1 rv I1 L1 R1 K1 hrun => exact Or.inr (Or.inr (Or.inr (Or.inr (Or.inr (Or.inr (Or.inl ⟨idx, 1, cmi, as, r, rv, I1, L1, R1, K1, Or.inr (Or.inl ⟨rfl, rfl⟩), hc, callOf_mm (by decide) hc, (fun _ => Bool.eq_false_iff.mpr hm), hrun, h⟩))))))
      case h_6 idx =>
        split at h
        case isTrue ho =>
          split at h
          case h_2 => cases h
          case h_1 a r =>
            split at h
            case isFalse => cases h
            case isTrue hl => exact Or.inr (Or.inr (Or.inr (Or.inr (Or.inr (Or.inr (Or.inr (Or.inr (Or.inl ⟨idx, a, r, rfl, ho, rfl, hl, h⟩))))))))
        case isFalse =>
          split at h
          case h_2 => cases h
          case h_1 cmi as r hc =>
            split at h
            case h_2 => cases h
            case h_1 rv I1 L1 R1 K1 hrun => exact Or.inr (Or.inr (Or.inr (Or.inr (Or.inr (Or.inr (Or.inl ⟨idx, 2, cmi, as, r, rv, I1, L1, R1, K1, Or.inr (Or.inr ⟨rfl, rfl⟩), hc, callOf_mm (by decide) hc, (fun q => absurd q (by decide)), hrun, h⟩))))))
      case h_7 =>
        split at h
        case h_2 => cases h
        case h_1 pc1 ls1 st1 I1 L1 R1 K1 hs => exact Or.inr (Or.inr (Or.inr (Or.inr (Or.inr (Or.inr (Or.inr (Or.inr (Or.inr ⟨(pc1, ls1, st1, I1, L1, R1, K1), hs, h⟩))))))))
end
set_option maxHeartbeats 4000000 in
theorem run0_ok {sc : Nat × (Nat → Int)} : ∀ (f mi pc : Nat) (ls : ALs) (st : List AV) (I : IH) (L : LH) (R : RH) (K : KH) (res : ARes), amRun0 f mi pc ls st I L R K = some res → amRun sc f mi pc ls st I L R K = some res := by
  intro f
  induction f with
  | zero => intro mi pc ls st I L R K res h; cases h
  | succ f ih =>
    intro mi pc ls st I L R K res h
    have h0 := h
    obtain ⟨i, n, hd, hn, hc⟩ := run0_inv h
    rcases hc with ⟨x, rfl, rfl, hx, rfl⟩ | ⟨a, rfl, rfl, hx, rfl⟩ | ⟨j, rfl, rfl, hx, rfl⟩ | ⟨rfl, hx, rfl, rfl⟩ | ⟨idx, k, dp, b, sp, a, r, rfl, hcp, rfl, hcc, hrun⟩ | ⟨idx, cmi, x, y, r, rfl, hco, hmm, hrun⟩ | ⟨idx, ks, cmi, as, r, rv2, I2, L2, R2, K2, hks, hco, hmm, hns, hrun1, hrun⟩ | ⟨idx, cmi, as, r, x, rfl, hco, hstr, hp, hrun⟩ | ⟨idx, a, r, rfl, hob, rfl, hlv, hrun⟩ | ⟨g, hs, hrun⟩
    · obtain rfl : n = 1 := by simpa [insLen] using hn
      exact run_ireturn hd hx
    · obtain rfl : n = 1 := by simpa [insLen] using hn
      exact run_areturn hd hx
    · obtain rfl : n = 1 := by simpa [insLen] using hn
      exact run_areturnF hd hx
    · obtain rfl : n = 1 := by simpa [insLen] using hn
      exact run_return hd hx
    · obtain rfl : n = 3 := by simpa [insLen] using hn
      exact run_copy hd hcp hcc (ih _ _ _ _ _ _ _ _ _ hrun)
    · obtain rfl : n = 3 := by simpa [insLen] using hn
      exact run_mm hd (callOf_site hco).1 hmm hco (ih _ _ _ _ _ _ _ _ _ hrun)
    · obtain rfl : n = 3 := by rcases hks with ⟨-, rfl⟩ | ⟨-, rfl⟩ | ⟨-, rfl⟩ <;> simpa [insLen] using hn
      have hd2 : decode (mBytes mi) pc = .ok (invI ks idx, 3) := by rcases hks with ⟨rfl, rfl⟩ | ⟨rfl, rfl⟩ | ⟨rfl, rfl⟩ <;> exact hd
      refine run_call hd2 ?_ hco (ih _ _ _ _ _ _ _ _ _ hrun1) (ih _ _ _ _ _ _ _ _ _ hrun)
      rcases hks with ⟨rfl, rfl⟩ | ⟨rfl, rfl⟩ | ⟨rfl, rfl⟩
      · simp [plainCall, hmm, (callOf_site hco).1]
      · simp [plainCall, hns rfl]
      · simp [plainCall, (callOf_site hco).2]
    · obtain rfl : n = 3 := by simpa [insLen] using hn
      exact run_str hd hstr hco hp (ih _ _ _ _ _ _ _ _ _ hrun)
    · obtain rfl : n = 3 := by simpa [insLen] using hn
      exact run_obj hd hob hlv (ih _ _ _ _ _ _ _ _ _ hrun)
    · have hi : isStep i = true := by
        cases i <;> first | rfl | exact absurd (show (none : Option ACfg) = some g from hs) (fun q => by cases q)
      exact run_step hd hn hi (stepG_ok hs) (ih _ _ _ _ _ _ _ _ _ hrun)
