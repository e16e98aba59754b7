/-! the steps that read, write or make cells, one by one -/
theorem nar_ref {t : FieldType} {r : Option Nat} (h : t.isReference = true) : narrow t (va_rf r) = va_rf r ∧ fits t (va_rf r) = true := by
  cases t <;> first | (cases h; done) | (cases r <;> exact ⟨rfl, rfl⟩)
theorem fKind_ty {ci k : Nat} {ty : FieldType} (h : parseFieldDescriptor ((clAt ci).2.1 k).2.2.1 = some ty) : (fKind ci k = 0 → ty = .int) ∧ (fKind ci k = 1 → ty = .boolean) ∧ (fKind ci k = 2 → ty.isReference = true) := by
  unfold fKind
  rw [h]
  cases ty <;> simp [FieldType.isReference]
theorem fval_n {am : Nat → Nat} {I : IH} {R : RH} {ci a k : Nat} (h : fKind ci k ≠ 2) : fval am I R ci a k = .int (Int32.ofInt (I a k)) := by
  unfold fval
  split
  · rename_i h2
    exact absurd h2 h
  · rfl
theorem fval_r {am : Nat → Nat} {I : IH} {R : RH} {ci a k : Nat} (h : fKind ci k = 2) : fval am I R ci a k = va_rf ((R a k).map am) := by
  unfold fval
  split
  · rfl
  · rename_i h2
    exact absurd h h2
theorem fval_congr {am : Nat → Nat} {I I1 : IH} {R R1 : RH} {ci a k : Nat} (h : I1 a k = I a k) (h2 : R1 a k = R a k) : fval am I1 R1 ci a k = fval am I R ci a k := by
  unfold fval
  rw [h, h2]
theorem upd_setF {I : IH} {a k : Nat} {x : Int} : upd (fun i => Int32.ofInt (I a i)) k (Int32.ofInt x) = fun i => Int32.ofInt (setF I a k x a i) := by
  funext j
  rw [setF_at]
  unfold upd
  split <;> rfl
theorem row_toNat {i : Int} {n : Nat} (h : inRow i n = true) : 0 ≤ i ∧ i < n ∧ i.toNat < n := by
  unfold inRow at h
  simp only [Bool.and_eq_true, decide_eq_true_eq] at h
  omega
section
variable {p : Program} {l : Launch} {e : Env} {Rm : Room} {s : State} {m : MethodId} {args : Array Value} {below : List Frame} {meth : Method} {c : Code} {base : Nat} {D : va_G} {ay fx ax : Nat → Nat} {sc : Nat × (Nat → Int)} {mi n pc : Nat} {ls : ALs} {st : List AV} {I : IH} {L : LH} {R : RH} {K : KH} {g : ACfg}
set_option maxHeartbeats 4000000 in
theorem s_getfield {idx : Nat} (C : Ctx sc base D ay fx ax mi p Rm s m meth c) (hd : decode (mBytes mi) pc = .ok (.getfield idx, n)) (hn : insLen (.getfield idx) n = true) (hw : AMwf I L R K) (hst : okS K.2.2.1 st) (hls : okL K.2.2.1 ls) (h : stepL sc mi (.getfield idx) n pc ls st I L R K = some g) : StepS p l e Rm s m args below meth c base D ay fx (mMaxL mi) pc ls st I L R K g := by
  obtain rfl : n = 3 := by simpa [insLen] using hn
  simp only [stepL] at h
  split at h
  case h_2 => cases h
  case h_1 a r =>
    split at h
    case h_2 => cases h
    case h_1 ci k nest hf =>
      split at h
      case isFalse => cases h
      case isTrue hk =>
        have ha : a < K.2.2.1 := hst (aR (some a)) List.mem_cons_self
        split at h
        case h_1 h0 =>
          cases h
          refine StepS.pure fun am H locs cells slots lc Q hr hl kk => am_getf C hr hf hk ha hd ?_
          have e1 : fval am I R ci a k = .int (Int32.ofInt (I a k)) := fval_n (by rw [h0]; decide)
          rw [e1]
          exact kk lc hl
        case h_2 h0 =>
          cases h
          refine StepS.pure fun am H locs cells slots lc Q hr hl kk => am_getf C hr hf hk ha hd ?_
          have e1 : fval am I R ci a k = .int (Int32.ofInt (I a k)) := fval_n (by rw [h0]; decide)
          rw [e1]
          exact kk lc hl
        case h_3 h0 =>
          cases h
          refine StepS.pure fun am H locs cells slots lc Q hr hl kk => am_getf C hr hf hk ha hd ?_
          have e1 : fval am I R ci a k = cv am fx (aR (R a k)) := by rw [fval_r h0, cv_ref]
          rw [e1]
          exact kk lc hl
        case h_4 => cases h
set_option maxHeartbeats 4000000 in
theorem s_putfield {idx : Nat} (C : Ctx sc base D ay fx ax mi p Rm s m meth c) (hd : decode (mBytes mi) pc = .ok (.putfield idx, n)) (hn : insLen (.putfield idx) n = true) (hw : AMwf I L R K) (hst : okS K.2.2.1 st) (hls : okL K.2.2.1 ls) (h : stepL sc mi (.putfield idx) n pc ls st I L R K = some g) : StepS p l e Rm s m args below meth c base D ay fx (mMaxL mi) pc ls st I L R K g := by
  obtain rfl : n = 3 := by simpa [insLen] using hn
  simp only [stepL] at h
  split at h
  case h_2 => cases h
  case h_1 v a r =>
    split at h
    case h_2 => cases h
    case h_1 ci k nest hf =>
      split at h
      case isFalse => cases h
      case isTrue hk =>
        obtain ⟨hk, hfin⟩ := hk
        have ha : a < K.2.2.1 := hst (aR (some a)) (List.mem_cons_of_mem _ List.mem_cons_self)
        split at h
        case h_1 x h0 =>
          cases h
          refine StepS.write fun am H locs cells slots lc Q hr hl kk => am_putf (v := .int (Int32.ofInt x)) C hr hf hk ha hfin (fun ty hty => ?_) (fun b hb => ⟨setF_ne hb, rfl⟩) (fun j => ?_) hd kk
          · rw [(fKind_ty hty).1 h0]
            exact ⟨rfl, rfl⟩
          · by_cases e : j = k
            · subst e
              rw [if_pos rfl, fval_n (by rw [h0]; decide), setF_at, if_pos rfl]
            · rw [if_neg e]
              first | exact fval_congr (by rw [setF_at, if_neg e]) rfl | exact fval_congr rfl (by rw [setF_at, if_neg e])
        case h_2 x h0 =>
          split at h
          case isFalse => cases h
          case isTrue h01 =>
            cases h
            refine StepS.write fun am H locs cells slots lc Q hr hl kk => am_putf (v := .int (Int32.ofInt x)) C hr hf hk ha hfin (fun ty hty => ?_) (fun b hb => ⟨setF_ne hb, rfl⟩) (fun j => ?_) hd kk
            · rw [(fKind_ty hty).2.1 h0]
              rcases h01 with rfl | rfl <;> exact ⟨by decide +kernel, by decide +kernel⟩
            · by_cases e : j = k
              · subst e
                rw [if_pos rfl, fval_n (by rw [h0]; decide), setF_at, if_pos rfl]
              · rw [if_neg e]
                exact fval_congr (by rw [setF_at, if_neg e]) rfl
        case h_3 x h0 =>
          cases h
          refine StepS.write fun am H locs cells slots lc Q hr hl kk => ?_
          have e9 : (aR x :: aR (some a) :: r).map (cv am fx) = va_rf (x.map am) :: .ref (am a) :: r.map (cv am fx) := by rw [List.map_cons, cv_ref]; rfl
          show W p l e Rm s m args below meth c H locs cells slots Q (F0 m pc lc ((aR x :: aR (some a) :: r).map (cv am fx)))
          rw [e9]
          refine am_putf (v := va_rf (x.map am)) C hr hf hk ha hfin (fun ty hty => nar_ref ((fKind_ty hty).2.2 h0)) (fun b hb => ⟨rfl, setF_ne hb⟩) (fun j => ?_) hd kk
          by_cases e : j = k
          · subst e
            rw [if_pos rfl, fval_r h0, setF_at, if_pos rfl]
          · rw [if_neg e]
            first | exact fval_congr (by rw [setF_at, if_neg e]) rfl | exact fval_congr rfl (by rw [setF_at, if_neg e])
        case h_4 => cases h
/-! arrays -/
theorem am_at {am : Nat → Nat} {a k : Nat} {e : va_E} (hk : K.1 a = k) (h : cellO ay am I L R K a = e) (ha : a < K.2.2.1) : (wsO ay am I L R K)[a]? = some (am a, e) := by rw [wsO_get ha, h]
theorem cell_I {am : Nat → Nat} {a : Nat} (hk : K.1 a = 100) : cellO ay am I L R K a = .inl (ay 100, K.2.1 a, .inl fun i => Int32.ofInt (I a i)) := by
  unfold cellO; simp [hk]
theorem cell_Z {am : Nat → Nat} {a : Nat} (hk : K.1 a = 101) : cellO ay am I L R K a = .inl (ay 101, K.2.1 a, .inl fun i => Int32.ofInt (I a i)) := by
  unfold cellO; simp [hk]
theorem cell_L {am : Nat → Nat} {a : Nat} (hk : K.1 a = 102) : cellO ay am I L R K a = .inl (ay 102, K.2.1 a, .inr (.inl fun i => L a i)) := by
  unfold cellO; simp [hk]
theorem cell_R {am : Nat → Nat} {a k : Nat} (hk : K.1 a = k) (h : k = 103 ∨ k = 104 ∨ k = 105) : cellO ay am I L R K a = .inl (ay k, K.2.1 a, .inr (.inr (.inr (.inr fun i => (R a i).map am)))) := by
  unfold cellO; rcases h with rfl | rfl | rfl <;> simp [hk]
set_option maxHeartbeats 4000000 in
theorem s_iaload (C : Ctx sc base D ay fx ax mi p Rm s m meth c) (hd : decode (mBytes mi) pc = .ok (.iaload, n)) (hn : insLen (.iaload) n = true) (hw : AMwf I L R K) (hst : okS K.2.2.1 st) (hls : okL K.2.2.1 ls) (h : stepL sc mi (.iaload) n pc ls st I L R K = some g) : StepS p l e Rm s m args below meth c base D ay fx (mMaxL mi) pc ls st I L R K g := by
  obtain rfl : n = 1 := by simpa [insLen] using hn
  simp only [stepL] at h
  split at h
  case h_3 => cases h
  case h_1 i a r =>
    have hi : inR i := hst (aI i) List.mem_cons_self
    split at h
    case isFalse => cases h
    case isTrue hc =>
      cases h
      have ha : a < K.2.2.1 := hw.2.2.1 a (by omega)
      refine StepS.pure fun am H locs cells slots lc Q hr hl kk => va_iald (D := D) (cl := amCl) (tys := tysO ay) C.1 C.2.1 C.2.2.2.2.2.2.2.2.1 hr.1 a 0 (am_at hc.1 (cell_I hc.1) ha) rfl (in_ofInt hi hc.2) hd ?_
      rw [clamp_ofInt hi]
      exact kk lc hl
  case h_2 i r =>
    have hi : inR i := hst (aI i) List.mem_cons_self
    split at h
    case isFalse => cases h
    case isTrue hc =>
      cases h
      have hX := C.2.2.2.2.2.2.2.2.2.1
      refine StepS.pure fun am H locs cells slots lc Q hr hl kk => va_sld C.1 C.2.1 hX.2.1 hX.2.2.1.1 hX.2.2.1.2 hr.2.2 (in_ofInt hi hc) hd ?_
      rw [clamp_ofInt hi]
      exact kk lc hl
set_option maxHeartbeats 4000000 in
theorem s_baload (C : Ctx sc base D ay fx ax mi p Rm s m meth c) (hd : decode (mBytes mi) pc = .ok (.baload, n)) (hn : insLen (.baload) n = true) (hw : AMwf I L R K) (hst : okS K.2.2.1 st) (hls : okL K.2.2.1 ls) (h : stepL sc mi (.baload) n pc ls st I L R K = some g) : StepS p l e Rm s m args below meth c base D ay fx (mMaxL mi) pc ls st I L R K g := by
  obtain rfl : n = 1 := by simpa [insLen] using hn
  simp only [stepL] at h
  split at h
  case h_2 => cases h
  case h_1 i a r =>
    have hi : inR i := hst (aI i) List.mem_cons_self
    split at h
    case isFalse => cases h
    case isTrue hc =>
      cases h
      have ha : a < K.2.2.1 := hw.2.2.1 a (by omega)
      refine StepS.pure fun am H locs cells slots lc Q hr hl kk => va_zald (D := D) (cl := amCl) (tys := tysO ay) C.1 C.2.1 C.2.2.2.2.2.2.2.2.1 hr.1 a 1 (am_at hc.1 (cell_Z hc.1) ha) rfl (in_ofInt hi hc.2) hd ?_
      rw [clamp_ofInt hi]
      exact kk lc hl
set_option maxHeartbeats 4000000 in
theorem s_laload (C : Ctx sc base D ay fx ax mi p Rm s m meth c) (hd : decode (mBytes mi) pc = .ok (.laload, n)) (hn : insLen (.laload) n = true) (hw : AMwf I L R K) (hst : okS K.2.2.1 st) (hls : okL K.2.2.1 ls) (h : stepL sc mi (.laload) n pc ls st I L R K = some g) : StepS p l e Rm s m args below meth c base D ay fx (mMaxL mi) pc ls st I L R K g := by
  obtain rfl : n = 1 := by simpa [insLen] using hn
  simp only [stepL] at h
  split at h
  case h_2 => cases h
  case h_1 i a r =>
    have hi : inR i := hst (aI i) List.mem_cons_self
    split at h
    case isFalse => cases h
    case isTrue hc =>
      cases h
      have ha : a < K.2.2.1 := hw.2.2.1 a (by omega)
      refine StepS.pure fun am H locs cells slots lc Q hr hl kk => va_lald (D := D) (cl := amCl) (tys := tysO ay) C.1 C.2.1 C.2.2.2.2.2.2.2.2.1 hr.1 a 2 (am_at hc.1 (cell_L hc.1) ha) rfl (in_ofInt hi hc.2) hd ?_
      rw [clamp_ofInt hi]
      exact kk lc hl
/-- an element of an array of arrays -/
theorem am_aldA {am : Nat → Nat} {H : Heap} {locs : List Loc} {cells slots a : Nat} {lc : Array Slot} {Q : State → Prop} {rest : List Value} (C : Ctx sc base D ay fx ax mi p Rm s m meth c) (hr : Rel base D ay s am I L R K H locs) (hk : K.1 a = 105) (ha : a < K.2.2.1) {i : Int32} (hin : vp_in i (K.2.1 a)) (hd : decode (mBytes mi) pc = .ok (.aaload, 1))
    (kk : W p l e Rm s m args below meth c H locs cells slots Q (F0 m (pc + 1) lc (va_rf ((R a i.toNatClampNeg).map am) :: rest))) : W p l e Rm s m args below meth c H locs cells slots Q (F0 m pc lc (.int i :: .ref (am a) :: rest)) := by
  have hlt : i.toNatClampNeg < K.2.1 a := Nat.not_le.mp fun q => hin (Or.inr q)
  have hP := hr.1 a _ (am_at hk (cell_R hk (Or.inr (Or.inr rfl))) ha)
  exact W.aald (v := va_rf ((R a i.toNatClampNeg).map am)) C.1 C.2.1 hP ((C.2.2.2.2.2.2.2.2.1.2 5 _ rfl).1 (K.2.1 a) (fun j => va_rf ((R a j).map am))) rfl (fun q => by cases q) (by show ¬ (i < 0 ∨ (arrV _ _ _).slots.size ≤ _); rw [arrV_size]; exact hin) (by show (arrV _ _ _).slots[_]? = _; rw [arrV_read _ _ hlt]) rfl rfl hd kk
set_option maxHeartbeats 4000000 in
theorem s_aaload (C : Ctx sc base D ay fx ax mi p Rm s m meth c) (hd : decode (mBytes mi) pc = .ok (.aaload, n)) (hn : insLen (.aaload) n = true) (hw : AMwf I L R K) (hst : okS K.2.2.1 st) (hls : okL K.2.2.1 ls) (h : stepL sc mi (.aaload) n pc ls st I L R K = some g) : StepS p l e Rm s m args below meth c base D ay fx (mMaxL mi) pc ls st I L R K g := by
  obtain rfl : n = 1 := by simpa [insLen] using hn
  simp only [stepL] at h
  split at h
  case h_2 => cases h
  case h_1 i a r =>
    have hi : inR i := hst (aI i) List.mem_cons_self
    split at h
    case isFalse => cases h
    case isTrue hc =>
      cases h
      have ha : a < K.2.2.1 := hw.2.2.1 a (by omega)
      refine StepS.pure fun am H locs cells slots lc Q hr hl kk => ?_
      have hk9 : W p l e Rm s m args below meth c H locs cells slots Q (F0 m (pc + 1) lc (va_rf ((R a (Int32.ofInt i).toNatClampNeg).map am) :: r.map (cv am fx))) := by
        rw [clamp_ofInt hi, ← cv_ref (fx := fx)]
        exact kk lc hl
      rcases hc.1 with h3 | h3 | h3
      · exact va_aldq (D := D) (cl := amCl) (tys := tysO ay) C.1 C.2.1 C.2.2.2.2.2.2.2.2.1 hr.1 a 3 (am_at h3 (cell_R h3 (Or.inl rfl)) ha) rfl (in_ofInt hi hc.2) hd hk9
      · exact va_aldq (D := D) (cl := amCl) (tys := tysO ay) C.1 C.2.1 C.2.2.2.2.2.2.2.2.1 hr.1 a 4 (am_at h3 (cell_R h3 (Or.inr (Or.inl rfl))) ha) rfl (in_ofInt hi hc.2) hd hk9
      · exact am_aldA C hr h3 ha (in_ofInt hi hc.2) hd hk9
set_option maxHeartbeats 4000000 in
theorem s_iastore (C : Ctx sc base D ay fx ax mi p Rm s m meth c) (hd : decode (mBytes mi) pc = .ok (.iastore, n)) (hn : insLen (.iastore) n = true) (hw : AMwf I L R K) (hst : okS K.2.2.1 st) (hls : okL K.2.2.1 ls) (h : stepL sc mi (.iastore) n pc ls st I L R K = some g) : StepS p l e Rm s m args below meth c base D ay fx (mMaxL mi) pc ls st I L R K g := by
  obtain rfl : n = 1 := by simpa [insLen] using hn
  simp only [stepL] at h
  split at h
  case h_2 => cases h
  case h_1 x i a r =>
    have hi : inR i := hst (aI i) (List.mem_cons_of_mem _ List.mem_cons_self)
    split at h
    case isFalse => cases h
    case isTrue hc =>
      cases h
      have ha : a < K.2.2.1 := hw.2.2.1 a (by omega)
      refine StepS.write fun am H locs cells slots lc Q hr hl kk => va_iast (D := D) (cl := amCl) (tys := tysO ay) C.1 C.2.1 C.2.2.2.2.2.2.2.2.1 hr.1 hr.2.1 hr.2.2 a 0 (am_at hc.1 (cell_I hc.1) ha) rfl (in_ofInt hi hc.2) hd fun H1 locs1 hP hD hS => ?_
      rw [clamp_ofInt hi, upd_setF] at hP hD
      have hws := wsO_set (ay := ay) (am := am) (I := I) (I' := setF I a i.toNat x) (L := L) (L' := L) (R := R) (R' := R) ha (fun b hb => cellO_I (setF_ne hb) rfl rfl) (cell_I hc.1)
      exact kk H1 locs1 ⟨hws ▸ hP, hws ▸ hD, hS⟩
set_option maxHeartbeats 4000000 in
theorem s_bastore (C : Ctx sc base D ay fx ax mi p Rm s m meth c) (hd : decode (mBytes mi) pc = .ok (.bastore, n)) (hn : insLen (.bastore) n = true) (hw : AMwf I L R K) (hst : okS K.2.2.1 st) (hls : okL K.2.2.1 ls) (h : stepL sc mi (.bastore) n pc ls st I L R K = some g) : StepS p l e Rm s m args below meth c base D ay fx (mMaxL mi) pc ls st I L R K g := by
  obtain rfl : n = 1 := by simpa [insLen] using hn
  simp only [stepL] at h
  split at h
  case h_2 => cases h
  case h_1 x i a r =>
    have hi : inR i := hst (aI i) (List.mem_cons_of_mem _ List.mem_cons_self)
    split at h
    case isFalse => cases h
    case isTrue hc =>
      cases h
      obtain ⟨hc, h01⟩ := hc
      have ha : a < K.2.2.1 := hw.2.2.1 a (by omega)
      have hv : vp_nar .boolean (Int32.ofInt x) = Int32.ofInt x := by rcases h01 with rfl | rfl <;> decide +kernel
      refine StepS.write fun am H locs cells slots lc Q hr hl kk => va_zast (D := D) (cl := amCl) (tys := tysO ay) C.1 C.2.1 C.2.2.2.2.2.2.2.2.1 hr.1 hr.2.1 hr.2.2 a 1 (am_at hc.1 (cell_Z hc.1) ha) rfl (in_ofInt hi hc.2) hd fun H1 locs1 hP hD hS => ?_
      rw [hv, clamp_ofInt hi, upd_setF] at hP hD
      have hws := wsO_set (ay := ay) (am := am) (I := I) (I' := setF I a i.toNat x) (L := L) (L' := L) (R := R) (R' := R) ha (fun b hb => cellO_I (setF_ne hb) rfl rfl) (cell_Z hc.1)
      exact kk H1 locs1 ⟨hws ▸ hP, hws ▸ hD, hS⟩
set_option maxHeartbeats 4000000 in
theorem s_lastore (C : Ctx sc base D ay fx ax mi p Rm s m meth c) (hd : decode (mBytes mi) pc = .ok (.lastore, n)) (hn : insLen (.lastore) n = true) (hw : AMwf I L R K) (hst : okS K.2.2.1 st) (hls : okL K.2.2.1 ls) (h : stepL sc mi (.lastore) n pc ls st I L R K = some g) : StepS p l e Rm s m args below meth c base D ay fx (mMaxL mi) pc ls st I L R K g := by
  obtain rfl : n = 1 := by simpa [insLen] using hn
  simp only [stepL] at h
  split at h
  case h_2 => cases h
  case h_1 x i a r =>
    have hi : inR i := hst (aI i) (List.mem_cons_of_mem _ List.mem_cons_self)
    split at h
    case isFalse => cases h
    case isTrue hc =>
      cases h
      have ha : a < K.2.2.1 := hw.2.2.1 a (by omega)
      have hu : ∀ k : Nat, vp_updL (fun i => L a i) k x = fun i => setF L a k x a i := fun k => by funext j; rw [setF_at]; rfl
      refine StepS.write fun am H locs cells slots lc Q hr hl kk => va_last (D := D) (cl := amCl) (tys := tysO ay) C.1 C.2.1 C.2.2.2.2.2.2.2.2.1 hr.1 hr.2.1 hr.2.2 a 2 (am_at hc.1 (cell_L hc.1) ha) rfl (in_ofInt hi hc.2) hd fun H1 locs1 hP hD hS => ?_
      rw [clamp_ofInt hi, hu] at hP hD
      have hws := wsO_set (ay := ay) (am := am) (I := I) (I' := I) (L := L) (L' := setF L a i.toNat x) (R := R) (R' := R) ha (fun b hb => cellO_I rfl (setF_ne hb) rfl) (cell_L hc.1)
      exact kk H1 locs1 ⟨hws ▸ hP, hws ▸ hD, hS⟩
set_option maxHeartbeats 4000000 in
theorem s_aastore (C : Ctx sc base D ay fx ax mi p Rm s m meth c) (hd : decode (mBytes mi) pc = .ok (.aastore, n)) (hn : insLen (.aastore) n = true) (hw : AMwf I L R K) (hst : okS K.2.2.1 st) (hls : okL K.2.2.1 ls) (h : stepL sc mi (.aastore) n pc ls st I L R K = some g) : StepS p l e Rm s m args below meth c base D ay fx (mMaxL mi) pc ls st I L R K g := by
  obtain rfl : n = 1 := by simpa [insLen] using hn
  simp only [stepL] at h
  split at h
  case h_2 => cases h
  case h_1 x i a r =>
    have hi : inR i := hst (aI i) (List.mem_cons_of_mem _ List.mem_cons_self)
    split at h
    case isFalse => cases h
    case isTrue hc =>
      cases h
      have ha : a < K.2.2.1 := hw.2.2.1 a (by omega)
      have hx : x < K.2.2.1 := hw.2.2.1 x (by omega)
      have hu : ∀ (am : Nat → Nat) (k : Nat), va_up (fun i => (R a i).map am) k (some (am x)) = fun i => (setF R a k (some x) a i).map am := fun am k => by
        funext j
        rw [setF_at]
        unfold va_up
        split <;> rfl
      refine StepS.write fun am H locs cells slots lc Q hr hl kk => ?_
      have fin : ∀ (k0 : Nat) (hk : K.1 a = k0) (h3 : k0 = 103 ∨ k0 = 104 ∨ k0 = 105) (H1 : Heap) (locs1 : List Loc), va_P D amCl ((wsO ay am I L R K).set a (am a, .inl (ay k0, K.2.1 a, .inr (.inr (.inr (.inr (va_up (fun i => (R a i).map am) (Int32.ofInt i).toNatClampNeg (some (am x))))))))) H1 → va_D (fun q => base ≤ q) ((wsO ay am I L R K).set a (am a, .inl (ay k0, K.2.1 a, .inr (.inr (.inr (.inr (va_up (fun i => (R a i).map am) (Int32.ofInt i).toNatClampNeg (some (am x))))))))) → va_S (fun q => base ≤ q) s.heap H1 locs1 → W p l e Rm s m args below meth c H1 locs1 cells slots Q (F0 m (pc + 1) lc (r.map (cv am fx))) := fun k0 hk h3 H1 locs1 hP hD hS => by
        rw [clamp_ofInt hi, hu] at hP hD
        have hws := wsO_set (ay := ay) (am := am) (I := I) (I' := I) (L := L) (L' := L) (R := R) (R' := setF R a i.toNat (some x)) ha (fun b hb => cellO_I rfl rfl (setF_ne hb)) (cell_R hk h3)
        exact kk H1 locs1 ⟨hws ▸ hP, hws ▸ hD, hS⟩
      rcases hc.1 with ⟨h3, hkx⟩ | ⟨h3, hkx⟩
      · exact va_astq (D := D) (cl := amCl) (tys := tysO ay) (r := (RX4, TX4, 11)) C.1 C.2.1 C.2.2.2.2.2.2.2.2.1 hr.1 hr.2.1 hr.2.2 a 3 x 4 (am_at h3 (cell_R h3 (Or.inl rfl)) ha) rfl (am_at hkx (cellO_obj hkx (show amCl[4]? = some (RX4, TX4, 11) from rfl)) hx) rfl (in_ofInt hi hc.2) hd (fin 103 h3 (Or.inl rfl))
      · exact va_astq (D := D) (cl := amCl) (tys := tysO ay) (r := (RX9, TX9, 10)) C.1 C.2.1 C.2.2.2.2.2.2.2.2.1 hr.1 hr.2.1 hr.2.2 a 4 x 9 (am_at h3 (cell_R h3 (Or.inr (Or.inl rfl))) ha) rfl (am_at hkx (cellO_obj hkx (show amCl[9]? = some (RX9, TX9, 10) from rfl)) hx) rfl (in_ofInt hi hc.2) hd (fin 104 h3 (Or.inr (Or.inl rfl)))
end
