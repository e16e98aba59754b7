/-! the String constants' methods as AM has them; the soundness of AM, whole -/
theorem met_weak {l : Launch} {y : MethodName} {ws : List Jvm.Cond} {rm : Room} {Pc Pc' : Array Value → State → Prop} {Qc Qc' : Array Value → State → Outcome → State → Prop} {mc ms : Nat} {free free' : Addr → Prop} (h : Met l y ws rm Pc Qc mc ms free) (hP : ∀ a s, Pc' a s → Pc a s) (hQ : ∀ a s o t, Pc' a s → Qc a s o t → Qc' a s o t) (hf : ∀ q, free q → free' q) : Met l y ws rm Pc' Qc' mc ms free' := by
  intro p e ha hc hk s m args below hfr happ hp hK
  obtain ⟨n, o, h1, h2, h3, h4, L, h5, h6⟩ := h p e ha hc hk s m args below hfr happ (hP _ _ hp) hK
  exact ⟨n, o, h1, h2, h3, hQ _ _ _ _ hp h4, L, h5, fun q hq => hf _ (h6 q hq)⟩
theorem str_met (sc : Nat × (Nat → Int)) : StrMet sc := by
  intro cmi as x I L R K base D ay fx ax am l hs hp
  have hgo : ∀ (vs : List Value) (o : Value) (a : Array Value) (s : State) (oc : Outcome) (t : State), as.map (cv am fx) = vs → cv am fx (aI x) = o → PcA base D ay fx ax sc am I L R K as a s → QcS (some o) a s oc t → QcA base D ay fx am K.2.2.1 (some (aI x)) I L R K a s oc t := by
    intro vs o a s oc t e1 e2 h1 h2
    refine ⟨⟨am, ?_, fun _ _ => rfl, ?_, h1.2.2.2⟩, ?_, ?_⟩
    · rw [h2.1]
      show _ = Outcome.returned (some (cv am fx (aI x)))
      rw [e2]
    · rw [h2.2]
      exact h1.2.2.1
    · rw [h2.2]
      exact Nat.le_refl _
    · intro q _ _
      rw [h2.2]
  have hPc : ∀ (vs : List Value) (a : Array Value) (s : State), as.map (cv am fx) = vs → PcA base D ay fx ax sc am I L R K as a s → PcS base D ay fx ax sc vs a s := fun vs a s e1 h1 => ⟨by rw [← e1]; exact h1.1, h1.2.1⟩
  unfold amPrim at hp
  split at hp
  case h_1 j =>
    split at hp
    case isFalse => cases hp
    case isTrue hm =>
      obtain ⟨b, hb, rfl⟩ := Option.map_eq_some_iff.mp hp
      subst hm
      have hj : j < 16 := (List.getElem?_eq_some_iff.mp hb).1
      have hM := m_length (base := base) (D := D) (ay := ay) (fx := fx) (ax := ax) (sc := sc) l hj (lens_byts hb).1 (sBytes_and b (List.mem_of_getElem? hb)).1
      exact met_weak hM (fun a s h => hPc _ a s rfl h) (fun a s o t h1 h2 => hgo _ _ a s o t rfl rfl h1 h2) (fun q h => h.elim)
  case h_2 j k =>
    split at hp
    case isFalse => cases hp
    case isTrue hm =>
      split at hp
      case h_2 => cases hp
      case h_1 b hb =>
        split at hp
        case isFalse => cases hp
        case isTrue hk =>
          cases hp
          subst hm
          have hj : j < 16 := (List.getElem?_eq_some_iff.mp hb).1
          obtain ⟨h0, h1, h2⟩ := row_toNat hk
          obtain ⟨e1, e2⟩ := lens_byts hb
          obtain ⟨hb1, hb2⟩ := sBytes_and b (List.mem_of_getElem? hb)
          have hir : inR k := inR_nat h0 (by omega)
          have hlt : Int32.ofInt k < Int32.ofNat (lensS.getD j 0) := by
            rw [e1]
            exact (lt_ofInt hir (inR_nat (i := (b.length : Nat)) (by omega) (by omega))).mpr h1
          have hin : vp_in (Int32.ofInt k) (lensS.getD j 0) := by
            rw [e1]
            exact in_ofInt hir hk
          have hM := m_charAt (base := base) (D := D) (ay := ay) (fx := fx) (ax := ax) (sc := sc) l hj (ofInt_nn hir h0) hlt hin
          refine met_weak hM (fun a s h => hPc _ a s rfl h) (fun a s o t h1 h3 => hgo _ _ a s o t rfl ?_ h1 h3) (fun q h => h.elim)
          show Value.int (Int32.ofInt (b.getD k.toNat 0)) = _
          rw [e2, clamp_ofInt hir, List.getD_eq_getElem?_getD, List.getD_eq_getElem?_getD, List.getElem?_map, List.getElem?_eq_getElem h2]
          show _ = Value.int (Int32.ofInt b[k.toNat] &&& 255)
          rw [hb2 _ (List.getElem_mem h2)]
          rfl
  case h_3 => cases hp
/-- THE SOUNDNESS OF AM -/
theorem am_sound {sc : Nat × (Nat → Int)} (hsc : sc.1 ≤ 65536 ∧ ∀ j, inR (sc.2 j)) (f : Nat) : BodyS sc f := body_sound hsc (str_met sc) f
