/-! what one step of a run was -/
section
variable {sc : Nat × (Nat → Int)} {f mi pc : Nat} {ls : ALs} {st : List AV} {I : IH} {L : LH} {R : RH} {K : KH} {res : ARes}
set_option maxHeartbeats 4000000 in
theorem run_inv (h : amRun sc (f + 1) mi pc ls st I L R K = some res) : ∃ (i : Instr) (n : Nat), decode (mBytes mi) pc = .ok (i, n) ∧ insLen i n = true ∧ (
    (∃ x, i = .ireturn ∧ st = [aI x] ∧ retI mi x = true ∧ res = (some (aI x), I, L, R, K)) ∨
    (∃ a, i = .areturn ∧ st = [aR (some a)] ∧ retA mi = true ∧ res = (some (aR (some a)), I, L, R, K)) ∨
    (∃ j, i = .areturn ∧ st = [aF j] ∧ retA mi = true ∧ res = (some (aF j), I, L, R, K)) ∨
    (i = .return_ ∧ mRet mi = none ∧ st = [] ∧ res = (none, I, L, R, K)) ∨
    (∃ idx k dp b sp a r, i = .invokestatic idx ∧ isCopy (mOwn mi) idx = true ∧ st = aI k :: aI dp :: aR (some b) :: aI sp :: aR (some a) :: r ∧ (K.1 a = 100 ∧ K.1 b = 100 ∧ 0 ≤ k ∧ 0 ≤ sp ∧ 0 ≤ dp ∧ sp + k ≤ (K.2.1 a : Nat) ∧ dp + k ≤ (K.2.1 b : Nat) ∧ catS r ≤ 8 ∧ 1 ≤ mLvl mi) ∧ amRun sc f mi (pc + 3) ls r (copyI I a sp.toNat b dp.toNat k.toNat) L R K = some res) ∨
    (∃ idx cmi x y r, i = .invokestatic idx ∧ callOf mi idx 0 st K = some (cmi, [aI x, aI y], r) ∧ isMM cmi = true ∧ amRun sc f mi (pc + 3) ls (aI (minMax cmi x y) :: r) I L R K = some res) ∨
    (∃ idx ks cmi as r rv I1 L1 R1 K1, ((ks = 0 ∧ i = .invokestatic idx) ∨ (ks = 1 ∧ i = .invokevirtual idx) ∨ (ks = 2 ∧ i = .invokespecial idx)) ∧ callOf mi idx ks st K = some (cmi, as, r) ∧ isMM cmi = false ∧ (ks = 1 → isStr cmi = false) ∧ amRun sc f cmi 0 (padL (mMaxL cmi) (mkL as)) [] I L R K = some (rv, I1, L1, R1, K1) ∧ amRun sc f mi (pc + 3) ls (rv.toList ++ r) I1 L1 R1 K1 = some res) ∨
    (∃ idx cmi as r x, i = .invokevirtual idx ∧ callOf mi idx 1 st K = some (cmi, as, r) ∧ isStr cmi = true ∧ amPrim cmi as = some x ∧ amRun sc f mi (pc + 3) ls (aI x :: r) I L R K = some res) ∨
    (∃ idx a r, i = .invokespecial idx ∧ isObj (mOwn mi) idx = true ∧ st = aR (some a) :: r ∧ (1 ≤ mLvl mi ∧ catS r ≤ 8) ∧ amRun sc f mi (pc + 3) ls r I L R K = some res) ∨
    (∃ g, stepL sc mi i n pc ls st I L R K = some g ∧ amRun sc f mi g.1 g.2.1 g.2.2.1 g.2.2.2.1 g.2.2.2.2.1 g.2.2.2.2.2.1 g.2.2.2.2.2.2 = some res)) := by
  have callOf_mm : ∀ {idx ks cmi : Nat} {as r : List AV}, ks ≠ 0 → callOf mi idx ks st K = some (cmi, as, r) → isMM cmi = false := by
    intro idx ks cmi as r hks hc
    unfold callOf at hc
    split at hc
    case h_2 => cases hc
    case h_1 =>
      split at hc
      case isFalse => cases hc
      case isTrue hcc =>
        cases hc
        rcases hcc.2.2.2.2.2.1 with h1 | h1
        · exact absurd h1 hks
        · exact h1
  unfold amRun at h
  split at h
  case h_1 => cases h
  case h_2 i n hd =>
    refine ⟨i, n, hd, ?_⟩
    split at h
    case isFalse => cases h
    case isTrue hn =>
      refine ⟨hn, ?_⟩
      split at h
      case h_1 =>
        split at h
        case h_2 => cases h
        case h_1 x =>
          split at h
          case isFalse => cases h
          case isTrue hr =>
            cases h
            exact Or.inl ⟨x, rfl, rfl, hr, rfl⟩
      case h_2 =>
        split at h
        case h_3 => cases h
        case h_1 a =>
          split at h
          case isFalse => cases h
          case isTrue hr =>
            cases h
            exact Or.inr (Or.inl ⟨a, rfl, rfl, hr, rfl⟩)
        case h_2 j =>
          split at h
          case isFalse => cases h
          case isTrue hr =>
            cases h
            exact Or.inr (Or.inr (Or.inl ⟨j, rfl, rfl, hr, rfl⟩))
      case h_3 =>
        split at h
        case isFalse => cases h
        case isTrue hr =>
          cases h
          exact Or.inr (Or.inr (Or.inr (Or.inl ⟨rfl, hr.1, hr.2, rfl⟩)))
      case h_4 idx =>
        split at h
        case isTrue hcp =>
          split at h
          case h_2 => cases h
          case h_1 k dp b sp a r =>
            split at h
            case isFalse => cases h
            case isTrue hc => exact Or.inr (Or.inr (Or.inr (Or.inr (Or.inl ⟨idx, k, dp, b, sp, a, r, rfl, hcp, rfl, hc, h⟩))))
        case isFalse =>
          split at h
          case h_2 => cases h
          case h_1 cmi as r hc =>
            split at h
            case isTrue hm =>
              split at h
              case h_2 => cases h
              case h_1 x y => exact Or.inr (Or.inr (Or.inr (Or.inr (Or.inr (Or.inl ⟨idx, cmi, x, y, r, rfl, hc, hm, h⟩)))))
            case isFalse hm =>
              split at h
              case h_2 => cases h
              case h_1 rv I1 L1 R1 K1 hrun => exact Or.inr (Or.inr (Or.inr (Or.inr (Or.inr (Or.inr (Or.inl ⟨idx, 0, cmi, as, r, rv, I1, L1, R1, K1, Or.inl ⟨rfl, rfl⟩, hc, Bool.eq_false_iff.mpr hm, (fun q => absurd q (by decide)), hrun, h⟩))))))
      case h_5 idx =>
        split at h
        case h_2 => cases h
        case h_1 cmi as r hc =>
          split at h
          case isTrue hm =>
            split at h
            case h_2 => cases h
            case h_1 x hp => exact Or.inr (Or.inr (Or.inr (Or.inr (Or.inr (Or.inr (Or.inr (Or.inl ⟨idx, cmi, as, r, x, rfl, hc, hm, hp, h⟩)))))))
          case isFalse hm =>
            split at h
            case h_2 => cases h
            case h_1 rv I1 L1 R1 K1 hrun => exact Or.inr (Or.inr (Or.inr (Or.inr (Or.inr (Or.inr (Or.inl ⟨idx, 1, cmi, as, r, rv, I1, L1, R1, K1, Or.inr (Or.inl ⟨rfl, rfl⟩), hc, callOf_mm (by decide) hc, (fun _ => Bool.eq_false_iff.mpr hm), hrun, h⟩))))))
      case h_6 idx =>
        split at h
        case isTrue ho =>
          split at h
          case h_2 => cases h
          case h_1 a r =>
            split at h
            case isFalse => cases h
            case isTrue hl => exact Or.inr (Or.inr (Or.inr (Or.inr (Or.inr (Or.inr (Or.inr (Or.inr (Or.inl ⟨idx, a, r, rfl, ho, rfl, hl, h⟩))))))))
        case isFalse =>
          split at h
          case h_2 => cases h
          case h_1 cmi as r hc =>
            split at h
            case h_2 => cases h
            case h_1 rv I1 L1 R1 K1 hrun => exact Or.inr (Or.inr (Or.inr (Or.inr (Or.inr (Or.inr (Or.inl ⟨idx, 2, cmi, as, r, rv, I1, L1, R1, K1, Or.inr (Or.inr ⟨rfl, rfl⟩), hc, callOf_mm (by decide) hc, (fun q => absurd q (by decide)), hrun, h⟩))))))
      case h_7 =>
        split at h
        case h_2 => cases h
        case h_1 pc1 ls1 st1 I1 L1 R1 K1 hs => exact Or.inr (Or.inr (Or.inr (Or.inr (Or.inr (Or.inr (Or.inr (Or.inr (Or.inr ⟨(pc1, ls1, st1, I1, L1, R1, K1), hs, h⟩))))))))
end
